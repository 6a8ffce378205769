/** Promises 1, 6 to 35, 43 to 56: a test for each sentence that names a boundary case (numbers beyond their bounds: BoundsTest). */
public final class CallEdgesTest {
    private static final Story FIRST = Story.of("");
    private static final Story OVER = Story.of("raid 1 bonus;half;half;");
    private static final Story FULL = Story.of("raid1out;".repeat(200));
    private static final String TEN = "team abcdef:1,2,3,4,5,6,7,8,9,10;team z:99,98,97,96,95,94,93,92,91,90;";
    private static final String ALL_RED = "card b 1 red;card b 2 red;card b 3 red;card b 4 red;card b 5 red;card b 6 red;card b 7 red;";

    public static void main(String[] args) {
        counts();
        rosters();
        statuses();
        outsAndWaits();
        scores();
        players();
        raidByRaid();
        leads();
        runs();
        best();
        rates();
        most();
        needs();
        needsAtFifty();
        meetings();
        rows();
        firsts();
        tells();
        gains();
        shares();
        finds();
        sums();
        Talk.finish("CallEdgesTest");
    }

    // promise 6
    private static void counts() {
        for (Story story : new Story[] {Story.blank(), FIRST, OVER}) {
            for (String what : new String[] {"-1", "8", "MIN", "MAX"}) {
                Edge.refused("count: NONE for others", story, "count(" + what + ")", -1);
            }
        }
        Edge.all("count: a new object", Story.blank(), "count(0) = 0", "count(1) = 0", "count(2) = 0", "count(3) = 0", "count(4) = 0", "count(5) = 0", "count(6) = 0", "count(7) = 0");
        Edge.all("count: as told", Story.of("raid 1 empty;card a 1 green;change b 1 for 8;raid 2 empty;review b lost;half;"), "count(0) = 9", "count(1) = 8", "count(2) = 2",
            "count(3) = 4", "count(4) = 1", "count(5) = 1", "count(6) = 0", "count(7) = 0");
        Edge.all("count: of 10 PLAYERS", Story.blank().text(TEN), "count(0) = 10", "count(1) = 10");
        Edge.all("count: a won review is an other LINE, its RAID none", Story.of("raid 1 empty;review a won;"), "count(2) = 0", "count(3) = 1");
        Edge.all("count: 200 RAIDS", FULL, "count(2) = 200");
        Edge.all("count: two halves", OVER, "count(4) = 2");
        Edge.all("count: bytes of the TAPE", FIRST.tape("abc"), "count(6) = 3");
        Edge.all("count: bytes of OUT", OVER.then("tell(0)"), "count(7) = 13");
    }

    // promises 7, 8, 9
    private static void rosters() {
        Story ten = Story.blank().text(TEN);
        Edge.all("letter: 0 .. 5 of six letters", ten, "letter(0, 0) = 1", "letter(0, 1) = 2", "letter(0, 2) = 3", "letter(0, 3) = 4", "letter(0, 4) = 5", "letter(0, 5) = 6",
            "letter(0, 6) = -2", "letter(0, -1) = -2");
        Edge.all("letter: 0 behind it", ten, "letter(1, 0) = 26", "letter(1, 1) = 0", "letter(1, 2) = 0", "letter(1, 3) = 0", "letter(1, 4) = 0", "letter(1, 5) = 0", "letter(1, 6) = -2");
        Edge.all("letter: a name of one a", FIRST, "letter(0, 0) = 1", "letter(0, 1) = 0", "letter(1, 0) = 2", "letter(1, 5) = 0");
        Edge.all("letter: a name of six z", Story.blank().text(TEN.replace("abcdef", "zzzzzz")), "letter(0, 0) = 26", "letter(0, 5) = 26");
        Edge.all("shirt: the first and the last", ten, "shirt(0, 0) = 1", "shirt(0, 9) = 10", "shirt(0, 10) = -2", "shirt(1, 0) = 99", "shirt(1, 9) = 90", "shirt(1, 10) = -2");
        Edge.all("shirt: of each TEAM its own PLAYERS", FIRST, "shirt(0, 8) = 9", "shirt(1, 7) = 8", "shirt(1, 8) = -2");
        Edge.all("who: 1 .. 99", ten, "who(0, 1) = 0", "who(1, 99) = 0", "who(1, 90) = 9", "who(0, 10) = 9", "who(0, 99) = -1", "who(1, 1) = -1", "who(0, 0) = -2", "who(0, 100) = -2");
        Edge.all("who: NONE: none", FIRST, "who(0, 9) = 8", "who(1, 9) = -1", "who(0, 10) = -1", "who(1, 99) = -1");
    }

    // promises 10, 11, 48
    private static void statuses() {
        Story all = Story.of("raid 1 touch 5,2;card b 3 yellow;card b 1 red;");
        int[] due = {4, 1, 3, 0, 1, 0, 0, 2};
        for (int i = 0; i < due.length; i++) {
            Edge.due("is: what a PLAYER is", all, "is(1, " + i + ")", due[i]);
        }
        Edge.all("those: 0 .. 4", all, "those(1, 0) = 104", "those(1, 1) = 18", "those(1, 2) = 128", "those(1, 3) = 4", "those(1, 4) = 1", "those(1, 5) = -2", "those(1, -1) = -2");
        Edge.all("those: none that are so", FIRST, "those(0, 1) = 0", "those(0, 3) = 0", "those(0, 4) = 0", "those(0, 2) = 384", "those(1, 2) = 128");
        Edge.all("those: bits of 10 PLAYERS", Story.blank().text(TEN), "those(1, 0) = 127", "those(1, 2) = 896");
        Edge.all("shirts: from 0, the least first", all, "shirts(1, 0, 0) = 4", "shirts(1, 0, 1) = 6", "shirts(1, 0, 2) = 7", "shirts(1, 1, 0) = 2", "shirts(1, 1, 1) = 5",
            "shirts(1, 2, 0) = 8", "shirts(1, 3, 0) = 3", "shirts(1, 4, 0) = 1");
        Edge.all("shirts: NONE: not so many", all, "shirts(1, 0, 3) = -1", "shirts(1, 1, 2) = -1", "shirts(1, 2, 1) = -1", "shirts(1, 3, 1) = -1", "shirts(1, 4, 1) = -1",
            "shirts(1, 0, MAX) = -1", "shirts(0, 1, 0) = -1");
        Edge.all("shirts: not as the PLAYERS are numbered", Story.blank().text(TEN), "shirts(1, 0, 0) = 93", "shirts(1, 0, 6) = 99", "shirts(1, 0, 7) = -1", "shirts(1, 2, 0) = 90",
            "shirts(0, 0, 0) = 1", "shirts(0, 2, 2) = 10");
    }

    // promises 12, 13
    private static void outsAndWaits() {
        Story out = Story.of("raid 1 touch 5,2;");
        Edge.all("outs: as they stand", out, "outs(1, 0) = 4", "outs(1, 1) = 1");
        Edge.all("outs: NONE: not so many", out, "outs(1, 2) = -1", "outs(1, 10) = -1", "outs(1, MAX) = -1", "outs(0, 0) = -1");
        Edge.all("outs: -2 (k below 0, too)", out, "outs(1, -1) = -2", "outs(0, -1) = -2", "outs(1, MIN) = -2");
        Edge.all("outs: six", Story.of("raid 1 touch 7,6,5,4,3,2;"), "outs(1, 5) = 1", "outs(1, 6) = -1");
        Story off = Story.of("raid 1 touch 5;card b 1 yellow;card b 2 red;card b 3 yellow;card b 3 red;");
        Edge.all("wait: 0: it is not", off, "wait(1, 0) = 6", "wait(1, 1) = 0", "wait(1, 2) = 0", "wait(1, 3) = 0", "wait(1, 4) = 0", "wait(1, 7) = 0", "wait(0, 0) = 0");
    }

    // promises 14, 16, 19
    private static void scores() {
        Edge.all("score: none yet", FIRST, "score(0) = 0", "score(1) = 0", "empties(0) = 0", "empties(1) = 0");
        for (int what = 0; what <= 5; what++) {
            Edge.all("parts: none yet", FIRST, "parts(0, " + what + ") = 0", "parts(1, " + what + ") = 0");
        }
        Edge.all("score: when all is over", OVER, "score(0) = 1", "score(1) = 0");
        // a: ten at first, one by b's out, three touches, one by a tackle. b: a SUPER tackle, three bonuses, one by an
        // empty RAID that MUST SCORE.
        Story all = Story.of("raid 1 touch 1,2,3,4,5,6,7 bonus;raid 1 out;raid 1 touch 2,3,4;raid 5 tackled 1;raid 1 tackled 6;raid 6 bonus;"
            + "raid 2 empty;raid 6 bonus;raid 2 empty;raid 6 bonus;raid 2 empty;");
        Edge.all("parts: each of them", all, "parts(0, 0) = 10", "parts(0, 1) = 1", "parts(0, 2) = 1", "parts(0, 3) = 0", "parts(0, 4) = 2", "parts(0, 5) = 1", "score(0) = 15");
        Edge.all("parts: each of them", all, "parts(1, 0) = 0", "parts(1, 1) = 3", "parts(1, 2) = 1", "parts(1, 3) = 1", "parts(1, 4) = 0", "parts(1, 5) = 1", "score(1) = 6");
    }

    // promise 18
    private static void players() {
        for (int what = 0; what <= 7; what++) {
            Edge.all("of: none yet", FIRST, "of(0, 0, " + what + ") = 0", "of(0, 8, " + what + ") = 0", "of(1, 7, " + what + ") = 0");
        }
        Story all = Story.of("raid 1 touch 1,2 bonus;raid 3 tackled 1 bonus;raid 1 empty;raid 4 empty;card a 1 green;card a 1 green;");
        Edge.all("of: each of them", all, "of(0, 0, 0) = 2", "of(0, 0, 1) = 3", "of(0, 0, 2) = 2", "of(0, 0, 3) = 1", "of(0, 0, 4) = 1", "of(0, 0, 5) = 0", "of(0, 0, 6) = 1", "of(0, 0, 7) = 2");
        Edge.all("of: points: that of a RAID tackled, too", all, "of(1, 2, 0) = 1", "of(1, 2, 1) = 1", "of(1, 2, 2) = 0", "of(1, 2, 5) = 1");
        Edge.all("of: how often it went OUT", all, "of(1, 0, 5) = 1", "of(1, 1, 5) = 1", "of(1, 3, 5) = 0", "of(1, 3, 6) = 1");
        Edge.all("of: a card is no going OUT", Story.of("card a 1 yellow;card a 2 red;"), "of(0, 0, 5) = 0", "of(0, 1, 5) = 0", "of(0, 0, 7) = 0");
        Edge.all("of: ALL OUT aside: seven touches, a bonus", Story.of("raid 1 touch 1,2,3,4,5,6,7 bonus;"), "of(0, 0, 1) = 8", "of(0, 0, 2) = 7", "of(1, 0, 5) = 1");
    }

    // promise 20
    private static void raidByRaid() {
        Edge.all("raidOf: NONE: not so many, of none", FIRST, "raidOf(0, 0) = -1", "raidOf(0, 8) = -1", "raidOf(0, 9) = -2", "raidOf(-1, 0) = -2");
        Edge.all("raidOf: the last, NONE behind it", Story.of("raid 1 empty;raid 2 out;"), "raidOf(1, 1) = 1", "raidOf(2, 1) = -1", "raidOf(MAX, 1) = -1", "raidOf(MIN, 1) = -2",
            "raidOf(2, -1) = -2", "raidOf(2, 9) = -2", "raidOf(1, 9) = -2");
        Edge.all("raidOf: the 200th", FULL, "raidOf(199, 0) = 1", "raidOf(199, 2) = 4", "raidOf(200, 0) = -1");
        Edge.all("raidOf: touched ones (bits)", Story.of("raid 1 touch 7,1;"), "raidOf(0, 5) = 65", "raidOf(0, 6) = 0", "raidOf(0, 2) = 1");
        Edge.all("raidOf: the one who tackles", Story.of("raid 1 tackled 1;raid 1 tackled 7 bonus;"), "raidOf(0, 5) = 0", "raidOf(0, 6) = 0", "raidOf(1, 5) = 6", "raidOf(1, 6) = 1", "raidOf(1, 2) = 3");
        Edge.all("raidOf: NONE of other RESULTS", Story.of("raid 1 empty;raid 1 bonus;raid 1 out;"), "raidOf(0, 5) = -1", "raidOf(1, 5) = -1", "raidOf(2, 5) = -1", "raidOf(0, 2) = 0",
            "raidOf(1, 2) = 2", "raidOf(2, 2) = 4");
        Edge.all("raidOf: 1 with a bonus (of results 1, 3), else 0", Story.of("raid 1 bonus;raid 1 touch 2 bonus;"), "raidOf(0, 6) = 0", "raidOf(0, 3) = 1", "raidOf(1, 6) = 1", "raidOf(1, 3) = 2");
        Edge.all("raidOf: ALL OUT with them", Story.of("raid 1 touch 1,2,3,4,5,6;raid 7 out;raid 1 touch 1,2,3,4,5,6,7;"), "raidOf(0, 3) = 6", "raidOf(1, 3) = 0", "raidOf(1, 4) = 3", "raidOf(2, 3) = 9",
            "raidOf(2, 4) = 0", "raidOf(2, 8) = 0");
        Edge.all("raidOf: how many came BACK: ALL OUT and PUT OFF aside", Story.of("raid 1 out;raid 1 empty;raid 2 touch 1,2,3,4,5,6,7;"), "raidOf(2, 8) = 1");
    }

    // promises 21, 22, 34, 45
    private static void leads() {
        Story story = Story.of("raid 1 bonus;raid 1 bonus;raid 1 bonus;raid 1 touch 2,3;raid 1 empty;raid 1 out;raid 1 touch 2,3;");
        Edge.all("lead: behind the first k RAIDS", story, "lead(0) = 0", "lead(1) = 1", "lead(2) = 0", "lead(3) = 1", "lead(4) = -1", "lead(5) = -1", "lead(6) = 0", "lead(7) = 2");
        Edge.all("lead: -1000", story, "lead(8) = -1000", "lead(-1) = -1000", "lead(MIN) = -1000", "lead(MAX) = -1000");
        Edge.all("lead: -1000: no TEXT", Story.blank(), "lead(0) = -1000", "lead(1) = -1000", "lead(-1) = -1000");
        Edge.all("lead: of no RAIDS", FIRST, "lead(0) = 0", "lead(1) = -1000");
        Edge.all("lead: of 200 RAIDS", FULL, "lead(200) = 0", "lead(199) = -1", "lead(201) = -1000");
        Story card = Story.of("raid 1 touch 1,2,3,4,5,6;raid 7 empty;card b 7 red;raid 1 empty;");
        Edge.all("lead: cards' points with the RAID ahead of them", card, "lead(1) = 6", "lead(2) = 8", "lead(3) = 8");
        Edge.all("lead: a card that brings none", Story.of("raid 1 touch 1;card b 7 red;"), "lead(1) = 1");
        // changes
        Edge.due("changes: none yet", FIRST, "changes()", 0);
        Edge.due("changes: a lead at first is none", Story.of("raid 1 bonus;raid 1 empty;raid 1 bonus;"), "changes()", 0);
        Edge.due("changes: a draw, the same TEAM again", Story.of("raid 1 bonus;raid 1 bonus;raid 1 bonus;"), "changes()", 0);
        Edge.due("changes: a draw between", Story.of("raid 1 bonus;raid 1 bonus;raid 1 empty;raid 1 bonus;"), "changes()", 1);
        Edge.due("changes: no draw between", Story.of("raid 1 bonus;raid 1 touch 1,2;"), "changes()", 1);
        Edge.due("changes: from TEAM 1 to TEAM 0", Story.of("raid 1 empty;raid 1 bonus;raid 1 touch 1,2;"), "changes()", 1);
        Edge.due("changes: to and fro", Story.of("raid 1 bonus;raid 1 touch 1,2;raid 3 touch 4,5;raid 1 touch 3,4;"), "changes()", 3);
        Edge.due("changes: a draw at last", Story.of("raid 1 bonus;raid 1 bonus;"), "changes()", 0);
        // draws
        Edge.due("draws: behind no RAID", FIRST, "draws()", 0);
        Edge.due("draws: 0 to 0 behind a RAID", Story.of("raid 1 empty;"), "draws()", 1);
        Edge.due("draws: 1 to 0", Story.of("raid 1 bonus;"), "draws()", 0);
        Edge.due("draws: 1 to 1", Story.of("raid 1 bonus;raid 1 bonus;raid 1 empty;raid 1 bonus;"), "draws()", 2);
        // behind
        Edge.all("behind: 0: never", FIRST, "behind(0) = 0", "behind(1) = 0");
        Edge.all("behind: 0: never", Story.of("raid 1 bonus;"), "behind(0) = 0", "behind(1) = 1");
        Edge.all("behind: at most", story, "behind(0) = 1", "behind(1) = 2");
        Edge.all("behind: at most, not at last", Story.of("raid 1 touch 1,2,3;raid 4 touch 1,2;"), "behind(1) = 3", "behind(0) = 0");
        Edge.all("behind: a draw is none", Story.of("raid 1 empty;raid 1 empty;"), "behind(0) = 0", "behind(1) = 0");
    }

    // promises 23, 32, 33
    private static void runs() {
        Edge.all("run: none yet", FIRST, "run(0) = 0", "run(1) = 0", "longest(0) = 0", "longest(1) = 0", "great(0) = 0", "great(1) = 0");
        Edge.all("run: of both TEAMS' RAIDS", Story.of("raid 1 bonus;raid 1 out;raid 1 bonus;raid 2 tackled 1;"), "run(0) = 4", "run(1) = 0");
        Edge.all("run: ended by a RAID without points", Story.of("raid 1 bonus;raid 1 empty;raid 1 bonus;raid 1 out;"), "run(0) = 2", "run(1) = 0");
        Edge.all("run: ended by points of both", Story.of("raid 1 bonus;raid 1 tackled 1 bonus;raid 1 bonus;"), "run(0) = 1", "run(1) = 0");
        Edge.all("run: ended by points of the other one", Story.of("raid 1 bonus;raid 1 bonus;raid 1 out;raid 1 bonus;"), "run(0) = 1", "run(1) = 3");
        Edge.all("run: the most, not the last", Story.of("raid 1 bonus;raid 1 out;raid 1 bonus;raid 2 empty;raid 1 bonus;"), "run(0) = 3");
        Edge.all("longest: of its own", Story.of("raid 1 bonus;raid 1 bonus;raid 1 bonus;raid 1 empty;raid 1 bonus;raid 1 bonus;raid 1 empty;"), "longest(0) = 3", "longest(1) = 1");
        Edge.all("longest: the most, not the last", Story.of("raid 1 bonus;raid 1 empty;raid 1 touch 1;raid 2 empty;raid 1 empty;raid 2 bonus;raid 1 bonus;"), "longest(0) = 2");
        Edge.all("longest: by the bonus of one tackled", Story.of("raid 1 tackled 1 bonus;raid 1 empty;raid 2 bonus;"), "longest(0) = 2");
        Edge.all("longest: points in the other's RAIDS aside", Story.of("raid 1 empty;raid 1 out;raid 1 empty;raid 2 out;"), "longest(0) = 0", "run(0) = 1");
        Edge.due("great: 2 points", Story.of("raid 1 touch 1 bonus;"), "great(0)", 0);
        Edge.due("great: 3 points by touches", Story.of("raid 1 touch 1,2,3;"), "great(0)", 1);
        Edge.due("great: 3 points with a bonus", Story.of("raid 1 touch 1,2 bonus;"), "great(0)", 1);
        Edge.due("great: 1 and ALL OUT", Story.of("raid 1 touch 1,2,3,4,5,6;raid 7 empty;raid 1 touch 7;"), "great(0)", 1);
        Edge.due("great: 2 and ALL OUT", Story.of("raid 1 touch 1,2;raid 6 bonus;raid 1 touch 3,4;raid 6 bonus;raid 1 touch 5;raid 6 bonus;raid 1 touch 6,7;"), "great(0)", 0);
        Edge.due("great: the other one's RAIDS aside", Story.of("raid 1 touch 1,2,3,4,5,6;raid 7 out;"), "great(1)", 0);
        Edge.due("great: what the other one's RAID brought aside", Story.of("raid 1 touch 1,2,3,4,5,6;raid 7 out;"), "great(0)", 1);
    }

    // promise 24
    private static void best() {
        for (int what = 0; what <= 6; what++) {
            Edge.all("best: of like ones the lesser number", FIRST, "best(" + what + ", 0) = 0", "best(" + what + ", 8) = 8", "best(" + what + ", 9) = 10", "best(" + what + ", 16) = 17",
                "best(" + what + ", 17) = -1", "best(" + what + ", MAX) = -1", "best(" + what + ", -1) = -2");
        }
        Edge.all("best: 20 PLAYERS", Story.blank().text(TEN), "best(0, 0) = 0", "best(0, 9) = 9", "best(0, 10) = 10", "best(0, 19) = 19", "best(0, 20) = -1");
        Edge.all("best: 0 .. 6", FIRST, "best(7, 0) = -2", "best(-1, 0) = -2", "best(7, 17) = -2", "best(-1, 17) = -2");
        Story story = Story.of("raid 3 touch 1,2;raid 5 bonus;raid 3 empty;raid 5 tackled 2 bonus;raid 2 out;");
        Edge.all("best: the most first", story, "best(1, 0) = 2", "best(1, 1) = 14", "best(1, 2) = 0", "best(1, 3) = 1", "best(1, 4) = 3", "best(2, 0) = 2", "best(2, 1) = 0", "best(3, 0) = 1",
            "best(4, 0) = 1", "best(4, 1) = 0", "best(5, 0) = 1", "best(5, 1) = 10", "best(5, 2) = 11", "best(5, 3) = 14", "best(5, 4) = 0", "best(6, 0) = 2", "best(0, 0) = 2", "best(0, 1) = 14",
            "best(0, 2) = 1", "best(0, 3) = 0");
    }

    // promise 25
    private static void rates() {
        // PLAYER 2 of TEAM 0: two RAIDS, two touches, one of the RAIDS empty.
        Story story = Story.of("raid 3 touch 1,2;raid 5 bonus;raid 3 empty;raid 5 tackled 2 bonus;raid 2 out;");
        Edge.all("rate: cut", story, "rate(0, 2, 6, 3) = 1", "rate(0, 2, 6, -3) = -1", "rate(0, 2, 6, 1) = 0", "rate(0, 2, 6, -1) = 0", "rate(0, 2, 2, 7) = 7", "rate(0, 2, 0, 5) = 5");
        Edge.all("rate: by 0", story, "rate(0, 2, 2, 0) = 0", "rate(0, 1, 0, 0) = 0");
        Edge.all("rate: at the greatest int", story, "rate(0, 2, 6, MAX) = 1073741823", "rate(0, 1, 0, MAX) = 2147483647", "rate(0, 2, 2, 1073741823) = 1073741823");
        Edge.all("rate: NONE: times by is beyond an int", story, "rate(0, 2, 2, 1073741824) = -1", "rate(0, 2, 2, MAX) = -1", "rate(0, 2, 2, -1073741825) = -1", "rate(0, 2, 2, MIN) = -1");
        Edge.all("rate: at the least int", story, "rate(0, 2, 2, -1073741824) = -1073741824", "rate(0, 1, 0, MIN) = -2147483648", "rate(0, 2, 6, MIN) = -1073741824");
        Edge.all("rate: nothing, times by", story, "rate(0, 2, 3, MAX) = 0", "rate(0, 2, 5, MIN) = 0");
        Edge.all("rate: NONE: it made none", story, "rate(0, 0, 0, 1) = -1", "rate(0, 0, 5, 1) = -1", "rate(1, 0, 5, 1) = -1", "rate(0, 8, 1, 0) = -1");
        Edge.all("rate: -2 ahead of NONE", story, "rate(0, 0, 7, 1) = -2", "rate(0, 0, -1, 1) = -2", "rate(0, 2, 7, MAX) = -2", "rate(0, 9, 1, MAX) = -2", "rate(2, 0, 1, 1) = -2");
    }

    // promise 27
    private static void most() {
        Edge.due("most: of seven: a bonus, ALL OUT", FIRST, "most()", 10);
        Edge.due("most: of six: a bonus, ALL OUT", Story.of("raid 1 touch 1;raid 2 empty;"), "most()", 9);
        Edge.due("most: of five: no bonus, ALL OUT", Story.of("raid 1 touch 1,2;raid 3 empty;"), "most()", 7);
        Edge.due("most: of one: ALL OUT", Story.of("raid 1 touch 1,2,3,4,5,6;raid 7 empty;"), "most()", 3);
        Edge.due("most: of nobody", Story.of(ALL_RED), "most()", 0);
        Edge.due("most: NONE: nobody of it is ON", Story.of(ALL_RED + "raid 1 empty;"), "most()", -1);
        Edge.due("most: NONE: all is over", OVER, "most()", -1);
        Edge.due("most: NONE: 200 RAIDS there are", FULL, "most()", -1);
        Edge.due("most: the 200th RAID", Story.of("raid1out;".repeat(199)), "most()", 9);
        Edge.due("most: what comes of it: one comes ON, no ALL OUT", Story.of("raid 1 bonus;card b 7 yellow;" + "raid 1 bonus;".repeat(5)), "most()", 7);
        Edge.due("most: what comes of it: one PUT OFF for longer", Story.of("card b 7 yellow;" + "raid 1 bonus;".repeat(4)), "most()", 9);
        Edge.due("most: of TEAM 1", Story.of("raid 1 out;"), "most()", 9);
        Edge.due("most: by one ON of it", Story.of("raid 1 touch 1,2,3,4,5,6;"), "most()", 10);
        Edge.due("most: behind a first half", Story.of("half;"), "most()", 10);
    }

    // promise 28
    private static void needs() {
        Edge.all("needs: at a draw", FIRST, "needs(0) = 1", "needs(1) = 1", "needs(2) = -2", "needs(-1) = -2");
        Edge.all("needs: 0: it leads", Story.of("raid 1 bonus;"), "needs(0) = 0", "needs(1) = 1");
        Edge.all("needs: 0: it leads (when all is over, too)", OVER, "needs(0) = 0");
        Edge.all("needs: NONE: all is over", OVER, "needs(1) = -1");
        Edge.all("needs: NONE: all is over, a draw", Story.of("half;half;"), "needs(0) = -1", "needs(1) = -1", "needs(2) = -2");
        // b leads by 9: a's 10 lead.
        Edge.due("needs: a lead of 9", Story.of("raid 1 empty;raid 1 touch 1,2,3,4,5,6,7;"), "needs(0)", 1);
        Edge.due("needs: a lead of 10 is a draw behind one", Story.of("raid 1 empty;raid 1 touch 1,2,3,4,5,6,7 bonus;"), "needs(0)", 2);
        // A draw, and TEAM 1's RAID that MUST SCORE comes next: TEAM 0 leads behind it.
        Story draw = Story.of("raid 1 empty;raid 1 bonus;raid 1 bonus;raid 1 empty;raid 1 empty;raid 1 empty;raid 1 empty;");
        Edge.all("needs: the other one's RAID that MUST SCORE", draw, "lead(7) = 0", "turn() = 1", "empties(1) = 2", "needs(0) = 0");
        Edge.due("needs: without it", Story.of("raid 1 empty;raid 1 bonus;raid 1 bonus;raid 1 empty;raid 1 empty;"), "needs(0)", 1);
        // 10 behind, the other one empty once: its second between is empty, too, and scores for nobody.
        Edge.due("needs: the other one's second empty RAID", Story.of("raid 1 empty;raid 1 touch 1,2,3,4,5,6,7 bonus;raid 1 empty;raid 1 empty;"), "needs(0)", 2);
        Edge.all("needs: NONE: nobody ON whose TURN it is", Story.of(ALL_RED), "needs(0) = -1", "needs(1) = -1");
        Edge.all("needs: NONE: nobody ON whose TURN it is, its own", Story.of(ALL_RED + "raid 1 empty;"), "needs(0) = -1", "needs(1) = -1");
        Edge.due("needs: 0 ahead of NONE: it leads", Story.of("raid 1 bonus;" + ALL_RED), "needs(0)", 0);
        // Six SENT OFF, one PUT OFF: TEAM 1 has nobody ON at its TURN.
        Edge.due("needs: NONE: one PUT OFF is not ON", Story.of(ALL_RED.replace("7 red", "7 yellow")), "needs(0)", -1);
        // The one PUT OFF comes ON by TEAM 0's own RAID, the sixth: TEAM 1 can raid then, empty; TEAM 0 touches it: 1 and ALL OUT.
        Story late = Story.of("raid 1 empty;card b 7 yellow;raid 1 empty;raid 1 bonus;raid 1 empty;raid 2 bonus;raid 1 bonus;" + ALL_RED.replace("card b 7 red;", ""));
        Edge.all("needs: one who comes ON in time", late, "wait(1, 6) = 1", "turn() = 0", "lead(6) = 1", "needs(1) = 1");
        Edge.all("needs: beyond 200 RAIDS, too", FULL, "needs(0) = 1", "needs(1) = 1");
        Edge.due("needs: halves aside", Story.of("half;"), "needs(1)", 1);
        Edge.due("needs: of each TEAM by the one of least number who is ON", Story.of("raid 1 touch 1,2,3;"), "needs(1)", 1);
        // TEAM 0's RAIDS between, the third of them MUST SCORE: by PLAYER 0, who goes OUT, and TEAM 1 has a point: 20 and 1.
        Edge.due("needs: 20 behind: 10, 10, a draw, and the point of a RAID that MUST SCORE",
            Story.of("raid 1 touch 1,2,3,4,5,6,7 bonus;raid 1 empty;raid 1 touch 1,2,3,4,5,6,7 bonus;raid 1 empty;raid 1 empty;"), "needs(1)", 2);
    }

    // NONE: more than 50.
    private static void needsAtFifty() {
        // TEAM 0 raids next. TEAM 1 makes 10, 10, 9, and 1 by each third RAID of TEAM 0, that MUST SCORE: 490 by 49 of
        // its own, 500 by 50, and 501 with the RAID of TEAM 0 behind them.
        Edge.all("needs: 49", ahead(49, 6), "lead(110) = 489", "turn() = 0", "needs(1) = 49", "needs(0) = 0");
        Edge.all("needs: 50", ahead(50, 5), "lead(110) = 490", "needs(1) = 50");
        Edge.all("needs: 50", ahead(51, 5), "lead(112) = 499", "needs(1) = 50");
        Edge.all("needs: 50, by the other one's RAID behind them", ahead(52, 4), "lead(112) = 500", "needs(1) = 50");
        Edge.all("needs: NONE: more than 50", ahead(53, 3), "lead(112) = 501", "needs(1) = -1");
        Edge.all("needs: NONE: far more than 50", ahead(62, 0), "lead(124) = 558", "needs(1) = -1");
        Edge.refused("needs: all stays", ahead(50, 5), "needs(1)", 50);
        Edge.refused("needs: all stays", ahead(53, 3), "needs(1)", -1);
    }

    /** Rounds in which TEAM 0 gets 9 points more than TEAM 1, then rounds with 8: as a TEXT as far as it goes, then by calls. */
    private static Story ahead(int nines, int eights) {
        int first = Math.min(nines, 48);
        Story story = Story.of("raid1touch1,2,3,4,5,6,7bonus;raid1bonus;".repeat(first));
        for (int n = first; n < nines + eights; n++) {
            story = story.then("raid(0, 1, 127, " + (n < nines ? 1 : 0) + ")", "raid(0, 2, 0, 0)");
        }
        return story;
    }

    // promises 29, 30, 31, 56
    private static void meetings() {
        Edge.all("met: PLAYERS of each TEAM", FIRST, "met(0, 8, 7, 0) = 0", "met(0, 8, 8, 0) = -2", "met(0, 9, 0, 0) = -2", "met(1, 7, 8, 1) = 0", "met(1, 8, 0, 1) = -2", "met(1, 7, 9, 1) = -2");
        Story story = Story.of("raid 1 touch 2,3;raid 4 tackled 1;raid 1 touch 5;raid 6 out;raid 1 tackled 7;");
        Edge.all("met: touched", story, "met(0, 0, 1, 0) = 1", "met(0, 0, 2, 0) = 1", "met(0, 0, 4, 0) = 1", "met(0, 0, 0, 0) = 0", "met(0, 0, 3, 0) = 0", "met(0, 1, 1, 0) = 0", "met(1, 1, 0, 0) = 0");
        Edge.all("met: was tackled", story, "met(1, 3, 0, 1) = 1", "met(0, 0, 6, 1) = 1", "met(0, 0, 3, 1) = 0", "met(0, 6, 0, 1) = 0", "met(0, 0, 6, 0) = 0", "met(1, 3, 0, 0) = 0", "met(0, 0, 1, 1) = 0");
        Edge.all("met: tackled by PLAYER 0 is no touch, and others are no tackles by it", Story.of("raid 1 empty;raid 1 out;raid 2 bonus;"), "met(0, 0, 0, 1) = 0", "met(1, 0, 0, 1) = 0", "met(0, 1, 0, 1) = 0");
        Edge.all("lasted: none yet", FIRST, "lasted(0, 0) = 0", "lives(0) = 0", "stood(0, 0) = -1");
        Edge.all("lasted: at the beginning", story, "lasted(1, 0) = 5", "lasted(1, 1) = 1", "lasted(1, 3) = 2", "lasted(1, 7) = 0", "lasted(0, 0) = 5");
        Edge.all("lasted: one PUT OFF, one who came in place", Story.of("card a 1 yellow;raid 2 bonus;change a 3 for 8;raid 2 bonus;"), "lasted(0, 0) = 0", "lasted(0, 2) = 1", "lasted(0, 7) = 1", "lasted(0, 1) = 2");
        Edge.all("stood: NONE: not so many", story, "stood(1, 0) = 7", "stood(1, 1) = 5", "stood(1, 4) = 2", "stood(1, 5) = -1", "stood(1, MAX) = -1", "stood(1, -1) = -2", "stood(1, MIN) = -2", "stood(2, 5) = -2");
        Edge.all("stood: nobody", Story.of(ALL_RED + "raid 1 empty;"), "stood(1, 0) = 0", "stood(0, 0) = 7");
        Edge.all("stood: of 200", FULL, "stood(0, 199) = 6", "stood(1, 199) = 7", "stood(0, 200) = -1", "stood(1, 200) = -1");
        Edge.all("lives: all seven", story, "lives(0) = 5", "lives(1) = 1");
        Edge.all("lives: six are not all", Story.of("card a 1 red;raid 2 bonus;raid 1 bonus;"), "lives(0) = 0", "lives(1) = 2");
        Edge.all("lives: seven with one who came in place", Story.of("change a 1 for 8;raid 8 bonus;"), "lives(0) = 1");
    }

    // promises 46, 49, 52, 53
    private static void rows() {
        Edge.all("pressed: none yet", FIRST, "pressed(0, 0) = 0", "pressed(0, 1) = 0", "streak(0, 0) = 0", "last(0, 0) = -1", "allOut(0, 0) = -1");
        String all = "raid 1 touch 1,2,3,4,5,6,7;raid 1 empty;";
        Story twice = Story.of(all + all);
        Edge.all("allOut: NONE: not so many", twice, "allOut(1, 0) = 0", "allOut(1, 1) = 2", "allOut(1, 2) = -1", "allOut(1, MAX) = -1", "allOut(0, 0) = -1", "allOut(1, -1) = -2", "allOut(0, MIN) = -2");
        Edge.all("allOut: by its own RAID", Story.of("raid 1 touch 1,2,3,4,5,6;raid 7 out;"), "allOut(1, 0) = 1", "allOut(1, 1) = -1");
        Edge.all("allOut: a card is no RAID", Story.of("raid 1 touch 1,2,3,4,5,6;card b 7 red;"), "allOut(1, 0) = -1");
        Story streak = Story.of("raid 1 bonus;raid 2 tackled 2 bonus;raid 2 empty;raid 3 empty;raid 1 touch 1;raid 4 empty;raid 1 empty;raid 4 empty;raid 1 touch 3;");
        Edge.all("streak: of its own", streak, "streak(0, 0) = 2", "streak(0, 1) = 0", "streak(1, 1) = 1", "streak(0, 2) = 0");
        Edge.all("streak: the most, not the last", Story.of("raid 1 bonus;raid 1 bonus;raid 1 bonus;raid 1 empty;raid 1 empty;raid 1 bonus;"), "streak(0, 0) = 2", "streak(1, 0) = 1");
        Edge.all("streak: a tackle is none of its RAIDS", Story.of("raid 1 empty;raid 1 tackled 1;"), "streak(0, 0) = 0");
        Edge.all("last: RAID 0", Story.of("raid 1 empty;raid 1 empty;"), "last(0, 0) = 0", "last(1, 0) = 1");
        Edge.all("last: the last RAID of a PLAYER", streak, "last(0, 0) = 8", "last(0, 1) = 2", "last(1, 1) = 1", "last(0, 2) = -1", "last(1, 0) = -1");
    }

    // promise 35
    private static void firsts() {
        Story story = Story.of("raid 1 empty;raid 1 empty;raid 1 bonus;raid 1 tackled 2 bonus;raid 1 bonus;raid 2 tackled 2;raid 3 tackled 3;");
        Edge.all("first: as RAIDER", story, "first(0, 0, 0) = 2", "first(1, 0, 0) = 3", "first(1, 1, 0) = -1", "first(0, 1, 0) = -1");
        Edge.all("first: by a tackle", story, "first(0, 1, 1) = 3", "first(1, 2, 1) = 6", "first(0, 0, 1) = -1", "first(1, 0, 1) = -1");
        Edge.all("first: NONE: none", FIRST, "first(0, 0, 0) = -1", "first(0, 0, 1) = -1", "first(0, 0, 2) = -2", "first(0, 0, -1) = -2", "first(0, 9, 0) = -2");
        Edge.all("first: RAID 0", Story.of("raid 1 tackled 1 bonus;"), "first(0, 0, 0) = 0", "first(1, 0, 1) = 0");
        Edge.all("first: touched ones (bits) are no tackle", Story.of("raid 1 touch 1;raid 2 touch 2;"), "first(1, 1, 1) = -1", "first(1, 0, 1) = -1", "first(0, 1, 1) = -1", "first(0, 2, 1) = -1");
        Edge.all("first: tackled by the other one's PLAYER", Story.of("raid 1 tackled 3;"), "first(0, 2, 1) = -1", "first(0, 0, 1) = -1", "first(1, 2, 1) = 0");
        Edge.all("first: out is no tackle", Story.of("raid 1 out;"), "first(1, 0, 1) = -1");
    }

    // promises 43, 44
    private static void tells() {
        Story base = Story.of("raid 1 touch 7,2 bonus;raid 3 tackled 1 bonus;card a 5 green;raid 6 empty;raid 4 bonus;raid 5 out;raid 5 tackled 3;raid 4 touch 1;");
        says("tell: all", base.then("tell(0)"),
            "raid 1 touch 7,2 bonus;raid 3 tackled 1 bonus;raid 6 empty;raid 4 bonus;raid 5 out;raid 5 tackled 3;raid 4 touch 1;");
        says("tell: of TEAM 0", base.then("tell(1)"), "raid 1 touch 7,2 bonus;raid 6 empty;raid 5 out;raid 4 touch 1;");
        says("tell: of TEAM 1", base.then("tell(2)"), "raid 3 tackled 1 bonus;raid 4 bonus;raid 5 tackled 3;");
        Edge.all("tell: how many RAIDS", base, "tell(0) = 7", "tell(1) = 4", "tell(2) = 3");
        Story told = base.then("tell(2)");
        for (String what : new String[] {"-1", "3", "MIN", "MAX"}) {
            Edge.refused("tell: -2", told, "tell(" + what + ")", -2);
        }
        Edge.all("tell: no RAIDS", told.text(Talk.TEAMS), "tell(0) = 0", "count(7) = 0", "octet(0) = -1");
        Edge.all("tell: none of TEAM 1", told.text(Talk.TEAMS + "raid 1 empty;"), "tell(2) = 0", "count(7) = 0");
        Edge.refused("tell: -2: without a TEXT OUT stays", told.then("undo()"), "tell(0)", -2);
        says("octet: whatever came since", told.then("raid(5, 0, 0, 0)", "undo()", "undo()").tried("text()", "find()", "tell(3)"), "raid 3 tackled 1 bonus;raid 4 bonus;raid 5 tackled 3;");
        Edge.all("octet: NONE: there is none such", told, "octet(0) = 114", "octet(52) = 59", "octet(53) = -1", "octet(-1) = -1", "octet(MIN) = -1", "octet(MAX) = -1", "octet(2000) = -1");
        Edge.all("octet: empty ahead of any", FIRST, "octet(0) = -1", "count(7) = 0");
        says("tell: touched ones by raid() go by numbers", FIRST.then("raid(0, 1, 70, 0)", "tell(0)"), "raid 1 touch 2,3,7;");
        says("tell: SHIRTS of one and two digits", Story.blank().text("team a:10,2,3,4,5,6,7;team b:99,9,3,4,5,6,7;raid 10 touch 99,9;raid 3 tackled 10;").then("tell(0)"),
            "raid 10 touch 99,9;raid 3 tackled 10;");
        says("tell: of TEAM 1, SHIRTS of TEAM 0", Story.blank().text("team a:31,32,33,34,35,36,37;team b:1,2,3,4,5,6,7;raid 31 empty;raid 2 touch 37,31 bonus;raid 32 out;raid 2 tackled 33;").then("tell(2)"),
            "raid 2 touch 37,31 bonus;raid 2 tackled 33;");
        says("tell: a RAID taken away is none", Story.of("raid 1 empty;raid 2 empty;review a won;").then("tell(0)"), "raid 1 empty;");
        // 12 bytes each with SHIRTS of two digits; 14 for a bonus. 142 times 14 are 1988, 12 more make 2000.
        Story wide = Story.blank().text("team a:11,12,13,14,15,16,17;team b:11,12,13,14,15,16,17;" + "raid11bonus;".repeat(142));
        Edge.all("tell: 1988 bytes", wide, "tell(0) = 142", "count(7) = 1988");
        Edge.all("tell: within 2000 bytes: 2000", wide.then("raid(0, 4, 0, 0)"), "tell(0) = 143", "count(7) = 2000", "octet(1999) = 59", "octet(2000) = -1");
        Edge.all("tell: within 2000 bytes: one that is not whole", wide.then("raid(0, 2, 0, 0)"), "tell(0) = 142", "count(7) = 1988", "octet(1988) = -1");
        Edge.all("tell: none behind one that is not whole", wide.then("raid(0, 2, 0, 0)", "raid(0, 4, 0, 0)"), "tell(0) = 142", "count(7) = 1988");
        Edge.all("tell: none behind 2000 bytes", wide.then("raid(0, 4, 0, 0)", "raid(0, 4, 0, 0)"), "tell(0) = 143", "count(7) = 2000");
        Edge.all("tell: those of a TEAM alone are counted", wide.then("raid(0, 2, 0, 0)", "raid(0, 4, 0, 0)"), "tell(1) = 72", "count(7) = 1008", "tell(2) = 72", "count(7) = 1006");
        Edge.all("tell: 200 RAIDS", FULL, "tell(0) = 181", "count(7) = 1991", "tell(1) = 100", "count(7) = 1100");
        // What is told is a TEXT's LINES: told again, it is the same match.
        Story again = Story.of("raid 1 touch 7,2 bonus;raid 3 tackled 1 bonus;raid 6 empty;raid 4 bonus;raid 5 out;");
        Portrait.same("tell: LINES of a TEXT", Story.of(Talk.told(again.then("tell(0)").play())), again);
    }

    private static void says(String sentence, Story story, String want) {
        Talk.dueText(sentence + ": behind " + story, Talk.told(story.play()), want);
    }

    // promise 47
    private static void gains() {
        Story story = Story.of("raid 1 bonus;raid 1 out;raid 1 touch 2,3;raid 4 bonus;");
        Edge.all("gained: from one to another one, that one not with them", story, "gained(0, 0, 4) = 4", "gained(0, 0, 1) = 1", "gained(0, 0, 2) = 2", "gained(0, 1, 2) = 1", "gained(0, 2, 3) = 2",
            "gained(1, 0, 3) = 0", "gained(1, 3, 4) = 1", "gained(0, 3, 4) = 0");
        Edge.all("gained: no less", story, "gained(0, 0, 0) = 0", "gained(0, 2, 2) = 0", "gained(0, 4, 4) = 0", "gained(0, 2, 1) = -2", "gained(0, 4, 3) = -2", "gained(0, 1, 0) = -2", "gained(0, MAX, MIN) = -2");
        Edge.all("gained: 0 .. RAIDS", story, "gained(0, -1, 2) = -2", "gained(0, MIN, 2) = -2", "gained(0, -1, -1) = -2", "gained(0, 5, 5) = -2", "gained(0, 5, 4) = -2", "gained(0, 0, 5) = -2", "gained(0, 4, 5) = -2",
            "gained(0, 0, MAX) = -2", "gained(0, MAX, MAX) = -2");
        Edge.all("gained: TEAMS", story, "gained(2, 0, 0) = -2", "gained(-1, 0, 0) = -2");
        Edge.all("gained: of no RAIDS", FIRST, "gained(0, 0, 0) = 0", "gained(0, 0, 1) = -2", "gained(0, 1, 1) = -2");
        Edge.all("gained: of 200", FULL, "gained(0, 0, 200) = 100", "gained(0, 199, 200) = 1", "gained(1, 199, 200) = 0", "gained(0, 0, 201) = -2");
        Edge.all("gained: cards' points aside", Story.of("raid 1 touch 1,2,3,4,5,6;card b 7 red;"), "gained(0, 0, 1) = 6", "score(0) = 8");
        Edge.all("gained: ALL OUT with them", Story.of("raid 1 touch 1,2,3,4,5,6,7;"), "gained(0, 0, 1) = 9");
    }

    // promise 50
    private static void shares() {
        Edge.all("share: NONE: it has none by these", FIRST, "share(0, 0) = -1", "share(1, 7) = -1", "share(0, 9) = -2", "share(2, 0) = -2");
        Edge.all("share: NONE: by the other one's out alone", Story.of("raid 1 out;"), "score(1) = 1", "share(1, 0) = -1", "share(0, 0) = -1");
        Story thirds = Story.of("raid 3 touch 1,2;raid 5 bonus;raid 3 empty;raid 5 tackled 2 bonus;raid 2 out;");
        Edge.all("share: cut", thirds, "share(0, 2) = 66", "share(0, 1) = 33", "share(0, 0) = 0", "share(1, 4) = 100", "share(1, 0) = 0");
        Edge.all("share: ALL OUT aside", Story.of("raid 1 touch 1,2,3,4,5,6,7;raid 1 bonus;raid 2 bonus;"), "share(0, 0) = 87", "share(0, 1) = 12", "share(1, 0) = 100");
        Edge.all("share: tackles with SUPER ones", Story.of("raid 1 touch 1,2,3,4;raid 5 bonus;raid 1 tackled 6;"), "share(1, 5) = 66", "share(1, 4) = 33");
    }

    // promise 51
    private static void finds() {
        Story ten = Story.blank().text(TEN);
        Edge.all("find: a name of six letters", ten.tape("abcdef"), "find() = 0", "count(6) = 0");
        Edge.all("find: a name of one letter", ten.tape("z"), "find() = 1", "count(6) = 0");
        for (String name : new String[] {"a", "abcde", "abcdeg", "zz", "raid", "half", "fedcba", "y"}) {
            Edge.all("find: NONE: none", ten.tape(name), "find() = -1", "count(6) = 0");
        }
        for (String name : new String[] {"", "abcdefg", "abcdef ", " z", "z ", "Z", "z1", "1", "z\n", "`", "{", "z;", "z\u0000", "\u00fa", "abcdefabcdef", "z z"}) {
            Edge.all("find: -2: it is no such name", ten.tape(name), "find() = -2", "count(6) = 0");
            Portrait.same("find: all else stays", ten.tape(name).tried("find()"), ten);
        }
        Portrait.same("find: all else stays", ten.tape("z").then("find()"), ten);
        Portrait.same("find: all else stays", ten.tape("abc").tried("find()", "undo()"), ten.then("undo()"));
        Edge.all("find: without a TEXT as well", Story.blank().tape("z"), "find() = -2", "count(6) = 0");
        Edge.all("find: without a TEXT as well", Story.blank().tape(" "), "find() = -2", "count(6) = 0");
        Edge.all("find: of a TEXT undone", ten.then("undo()").tape("z"), "find() = -2");
        Edge.all("find: of 2000 letters", ten.tape("z".repeat(2000)), "find() = -2", "count(6) = 0");
    }

    // promises 54, 55
    private static void sums() {
        for (int what = 0; what <= 7; what++) {
            Edge.all("some, sum: none", FIRST, "some(0, " + what + ") = 0", "sum(0, " + what + ") = 0", "some(1, " + what + ") = 0", "sum(1, " + what + ") = 0");
        }
        Story story = Story.of("raid 1 touch 1,2 bonus;raid 3 tackled 7 bonus;raid 2 empty;card a 1 green;card a 2 green;card a 2 green;raid 4 out;raid 1 tackled 5;");
        Edge.all("some: more than 0", story, "some(0, 0) = 3", "some(0, 1) = 1", "some(0, 2) = 1", "some(0, 3) = 64", "some(0, 4) = 64", "some(0, 5) = 1", "some(0, 6) = 2", "some(0, 7) = 3",
            "some(1, 5) = 15", "some(1, 7) = 0", "some(0, 8) = -2", "some(0, -1) = -2");
        Edge.all("sum: together", story, "sum(0, 0) = 3", "sum(0, 1) = 3", "sum(0, 2) = 2", "sum(0, 3) = 1", "sum(0, 4) = 1", "sum(0, 5) = 1", "sum(0, 6) = 1", "sum(0, 7) = 3", "sum(1, 3) = 1", "sum(1, 4) = 2",
            "sum(1, 5) = 4", "sum(0, 8) = -2", "sum(0, -1) = -2");
        Edge.all("some: the last of 10 PLAYERS", Story.blank().text(TEN + "change z 99 for 90;raid 1 touch 90;"), "some(1, 5) = 512", "sum(1, 5) = 1");
    }
}
