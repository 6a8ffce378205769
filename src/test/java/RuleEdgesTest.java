/** Terms II to IV and promises 26, 36 to 42: a test for each sentence that names a boundary case. */
public final class RuleEdgesTest {
    // Of TEAM 0 PLAYERS 0 .. 6 are ON, 7 and 8 WAIT; of TEAM 1 0 .. 6 are ON, 7 WAITS.
    private static final Story FIRST = Story.of("");
    private static final Story OVER = Story.of("raid 1 touch 2;half;raid 1 bonus;half;");
    private static final Story FIVE = Story.of("raid 1 touch 6,7;raid 1 empty;");
    private static final Story SIX = Story.of("raid 1 touch 7;raid 1 empty;");
    private static final Story FULL = Story.of("raid1out;".repeat(200));
    private static final Story NO_OTHERS = Story.of("raid1out;review a won;".repeat(40) + "raid 1 bonus;");
    private static final String ALL_RED = "card b 1 red;card b 2 red;card b 3 red;card b 4 red;card b 5 red;card b 6 red;card b 7 red;";

    public static void main(String[] args) {
        turns();
        bonuses();
        backs();
        results();
        mustScore();
        putOff();
        allOut();
        raidsRefused();
        raidsAtLimits();
        foresight();
        cards();
        cardsAllOut();
        changes();
        halves();
        reviews();
        undone();
        tenActs();
        Talk.finish("RuleEdgesTest");
    }

    /** A RAID that is refused, and would() of it as well. */
    private static void noRaid(String sentence, Story story, String given, int want) {
        Edge.refused("raid: " + sentence, story, "raid(" + given + ")", want);
        for (int what = 0; what <= 3; what++) {
            Edge.refused("would: " + sentence, story, "would(" + given + ", " + what + ")", want);
        }
    }

    /** A RAID that can be: its points, the other TEAM's, how many of both are ON then; would() tells it ahead. */
    private static void yesRaid(String sentence, Story story, String given, int own, int other, int on, int otherOn) {
        int team = story.play().turn();
        int[] due = {own, other, on, otherOn};
        for (int what = 0; what <= 3; what++) {
            Edge.refused("would: " + sentence, story, "would(" + given + ", " + what + ")", due[what]);
        }
        Edge.undone("raid: " + sentence, story, "raid(" + given + ")", own);
        RaidMat before = story.play();
        RaidMat x = story.then("raid(" + given + ")").play();
        int k = before.count(2);
        Talk.due(sentence + ": count(2)", x.count(2), k + 1);
        Talk.due(sentence + ": raidOf(k, 0)", x.raidOf(k, 0), team);
        Talk.due(sentence + ": raidOf(k, 3)", x.raidOf(k, 3), own);
        Talk.due(sentence + ": raidOf(k, 4)", x.raidOf(k, 4), other);
        Talk.due(sentence + ": score of its TEAM", x.score(team), before.score(team) + own);
        Talk.due(sentence + ": score of the other one", x.score(1 - team), before.score(1 - team) + other);
        Talk.due(sentence + ": ON of its TEAM", Integer.bitCount(x.those(team, 0)), on);
        Talk.due(sentence + ": ON of the other one", Integer.bitCount(x.those(1 - team, 0)), otherOn);
        Talk.due(sentence + ": turn()", x.turn(), 1 - team);
    }

    // The TEAM whose TURN it is (0 at first, 1 behind the half; in turn by RAIDS).
    private static void turns() {
        Edge.due("TURN: 0 at first", FIRST, "turn()", 0);
        Edge.due("TURN: in turn", Story.of("raid 1 empty;"), "turn()", 1);
        Edge.due("TURN: in turn", Story.of("raid 1 empty;raid 1 empty;"), "turn()", 0);
        Edge.due("TURN: 1 behind the half, ahead of any RAID", Story.of("half;"), "turn()", 1);
        Edge.due("TURN: 1 behind the half, 1's before", Story.of("raid 1 empty;half;"), "turn()", 1);
        Edge.due("TURN: 1 behind the half, 0's before", Story.of("raid 1 empty;raid 1 empty;half;"), "turn()", 1);
        Edge.due("TURN: in turn behind the half", Story.of("half;raid 1 empty;"), "turn()", 0);
        Edge.due("TURN: cards, changes, lost reviews aside",
            Story.of("raid 1 empty;review b lost;card a 1 red;change a 2 for 8;"), "turn()", 1);
        Edge.due("TURN: as ahead of a RAID that a won review took away", Story.of("raid 1 empty;review b won;"), "turn()", 0);
        Edge.due("turn: NONE: all is over", OVER, "turn()", -1);
        Edge.due("turn: 200 RAIDS are not all", FULL, "turn()", 0);
    }

    // BONUS can be had, if n is 6 or more.
    private static void bonuses() {
        Edge.due("bonus: of 7", FIRST, "bonus()", 1);
        Edge.due("bonus: of 6", SIX, "bonus()", 1);
        Edge.due("bonus: of 5", FIVE, "bonus()", 0);
        Edge.due("bonus: 6, one being PUT OFF", Story.of("card b 1 yellow;"), "bonus()", 1);
        Edge.due("bonus: 5, one being PUT OFF, one SENT OFF", Story.of("card b 1 yellow;card b 2 red;"), "bonus()", 0);
        Edge.due("bonus: of its own TEAM it does not matter", Story.of("card a 1 red;card a 2 red;"), "bonus()", 1);
        Edge.due("bonus: NONE: all is over", OVER, "bonus()", -1);
        Edge.due("bonus: 200 RAIDS are not all", FULL, "bonus()", 1);
        yesRaid("bonus of 6", SIX, "0, 2, 0, 0", 1, 0, 7, 6);
        yesRaid("touch with a bonus of 6", SIX, "0, 1, 1, 1", 2, 0, 7, 5);
        yesRaid("tackled with a bonus of 6", SIX, "0, 3, 0, 1", 1, 1, 6, 7);
        noRaid("bonus of 5", FIVE, "0, 2, 0, 0", -6);
        noRaid("touch with a bonus of 5", FIVE, "0, 1, 1, 1", -6);
        noRaid("tackled with a bonus of 5", FIVE, "0, 3, 0, 1", -6);
        yesRaid("touch without a bonus of 5", FIVE, "0, 1, 1, 0", 1, 0, 7, 4);
    }

    // A BACK: the one who stands first in its OUT ones comes ON (nobody, if there is none).
    private static void backs() {
        Story two = Story.of("raid 1 empty;raid 1 touch 3,1;");
        yesRaid("touch of one, two being OUT: one BACK", two, "1, 1, 16, 0", 1, 0, 6, 6);
        Edge.all("BACK: the one who stands first", two.then("raid(1, 1, 16, 0)"), "is(0, 2) = 0", "is(0, 0) = 1", "outs(0, 0) = 0", "outs(0, 1) = -1",
            "raidOf(2, 8) = 1");
        yesRaid("touch of three, two being OUT: two BACK", two, "1, 1, 112, 0", 3, 0, 7, 4);
        Edge.all("BACK: nobody, if there is none", two.then("raid(1, 1, 112, 0)"), "raidOf(2, 8) = 2", "outs(0, 0) = -1");
        Edge.all("BACK: nobody, if there is none", FIRST.then("raid(0, 1, 1, 0)"), "raidOf(0, 8) = 0");
        Edge.all("BACK: none by a bonus", two.then("raid(1, 2, 0, 0)"), "raidOf(2, 8) = 0", "outs(0, 0) = 2", "outs(0, 1) = 0");
        Edge.all("BACK: none by an empty RAID", two.then("raid(1, 0, 0, 0)"), "raidOf(2, 8) = 0", "outs(0, 1) = 0");
        Story other = Story.of("raid 1 touch 4,2;raid 1 empty;");
        Edge.all("tackled: a BACK for the other TEAM", other.then("raid(1, 3, 4, 0)"), "raidOf(2, 8) = 1", "is(1, 3) = 0", "outs(1, 0) = 1", "is(0, 1) = 1");
        Edge.all("tackled with a bonus: one BACK", other.then("raid(1, 3, 4, 0)", "raid(3, 3, 0, 1)"), "raidOf(3, 8) = 1", "is(0, 1) = 0");
        Edge.all("out: a BACK for the other TEAM", other.then("raid(1, 4, 0, 0)"), "raidOf(2, 8) = 1", "is(1, 3) = 0", "outs(1, 0) = 1", "is(0, 1) = 1");
        Edge.all("out: nobody comes BACK, if there is none", FIRST.then("raid(1, 4, 0, 0)"), "raidOf(0, 8) = 0");
        Edge.all("OUT ones stand in the order they went, of several RAIDS",
            Story.of("raid 1 touch 6,2;raid 5 out;raid 1 touch 7,1;"), "outs(1, 0) = 5", "outs(1, 1) = 1", "outs(1, 2) = 4", "outs(1, 3) = 6",
            "outs(1, 4) = 0", "outs(1, 5) = -1");
        // The one who came BACK goes OUT again: last now.
        Edge.all("OUT ones stand in the order they went, again",
            Story.of("raid 1 touch 6,2;raid 5 empty;raid 1 out;raid 3 empty;raid 2 touch 6;"), "outs(1, 0) = 1", "outs(1, 1) = 5", "of(1, 5, 5) = 2");
    }

    private static void results() {
        yesRaid("empty: no points", FIRST, "0, 0, 0, 0", 0, 0, 7, 7);
        yesRaid("touch of one", FIRST, "0, 1, 64, 0", 1, 0, 7, 6);
        yesRaid("touch of one, a bonus", FIRST, "0, 1, 64, 1", 2, 0, 7, 6);
        yesRaid("touch of six", FIRST, "0, 1, 126, 0", 6, 0, 7, 1);
        yesRaid("touch of seven: ALL OUT", FIRST, "0, 1, 127, 0", 9, 0, 7, 7);
        yesRaid("touch of seven, a bonus: ALL OUT", FIRST, "0, 1, 127, 1", 10, 0, 7, 7);
        yesRaid("bonus", FIRST, "6, 2, 0, 0", 1, 0, 7, 7);
        yesRaid("tackled", FIRST, "6, 3, 6, 0", 0, 1, 6, 7);
        yesRaid("tackled, a bonus", FIRST, "0, 3, 0, 1", 1, 1, 6, 7);
        yesRaid("out", FIRST, "0, 4, 0, 0", 0, 1, 6, 7);
        Story three = Story.of("raid 1 touch 1,2,3,4;raid 5 empty;");
        Story four = Story.of("raid 1 touch 1,2,3;raid 5 empty;");
        Story one = Story.of("raid 1 touch 1,2,3,4,5,6;raid 7 empty;");
        yesRaid("SUPER: n is 3 (a BACK makes four then)", three, "0, 3, 4, 0", 0, 2, 6, 4);
        yesRaid("SUPER: not of 4", four, "0, 3, 4, 0", 0, 1, 6, 5);
        yesRaid("SUPER: of 1", one, "0, 3, 6, 0", 0, 2, 6, 2);
        yesRaid("SUPER: out is none", three, "0, 4, 0, 0", 0, 1, 6, 4);
        Edge.all("SUPER: 1 point more", three.then("raid(0, 3, 4, 0)"), "parts(1, 2) = 1", "parts(1, 3) = 1", "of(1, 4, 3) = 1", "of(1, 4, 4) = 2");
        Edge.all("SUPER: not of 4", four.then("raid(0, 3, 4, 0)"), "parts(1, 2) = 1", "parts(1, 3) = 0", "of(1, 4, 3) = 1", "of(1, 4, 4) = 1");
        Edge.all("SUPER: out is none", three.then("raid(0, 4, 0, 0)"), "parts(1, 2) = 0", "parts(1, 3) = 0", "parts(1, 5) = 1");
        // n counts those who are ON alone: two OUT, one PUT OFF, one SENT OFF leave three.
        yesRaid("SUPER: n counts those who are ON", Story.of("raid 1 touch 1,2;raid 5 empty;card b 3 yellow;card b 4 red;"), "0, 3, 4, 0", 0, 2, 6, 4);
        Edge.all("touched ones go by numbers", FIRST.then("raid(0, 1, 82, 0)"), "outs(1, 0) = 1", "outs(1, 1) = 4", "outs(1, 2) = 6", "outs(1, 3) = -1");
        Edge.all("touched ones go in the order they are told", Story.of("raid 1 touch 7,2,5;"), "outs(1, 0) = 6", "outs(1, 1) = 1", "outs(1, 2) = 4");
    }

    // MUST SCORE: the TEAM's two RAIDS ahead were empty (since a RAID of it that was not, that MUST SCORE, the half).
    private static void mustScore() {
        Story one = Story.of("raid 1 empty;raid 3 bonus;");
        Story two = Story.of("raid 1 empty;raid 3 bonus;raid 1 empty;raid 3 bonus;");
        Edge.due("empties: 0", FIRST, "empties(0)", 0);
        Edge.due("empties: 1", one, "empties(0)", 1);
        Edge.due("empties: 2", two, "empties(0)", 2);
        yesRaid("MUST SCORE: not behind one", one, "0, 0, 0, 0", 0, 0, 7, 7);
        yesRaid("MUST SCORE: behind two", two, "0, 0, 0, 0", 0, 1, 6, 7);
        Edge.all("MUST SCORE: not behind one", one.then("raid(0, 0, 0, 0)"), "raidOf(2, 7) = 0", "is(0, 0) = 0", "empties(0) = 2", "pressed(0, 0) = 0");
        Edge.all("MUST SCORE: behind two", two.then("raid(0, 0, 0, 0)"), "raidOf(4, 7) = 1", "raidOf(4, 2) = 0", "is(0, 0) = 1", "empties(0) = 0",
            "pressed(0, 0) = 1", "pressed(0, 1) = 0", "parts(1, 5) = 1", "of(0, 0, 6) = 3", "of(0, 0, 5) = 1", "outs(0, 0) = 0");
        Edge.all("MUST SCORE: since one that MUST SCORE", two.then("raid(0, 0, 0, 0)", "raid(2, 2, 0, 0)", "raid(1, 0, 0, 0)"), "raidOf(6, 7) = 0",
            "empties(0) = 1", "is(0, 1) = 0");
        for (String result : new String[] {"touch 1", "bonus", "tackled 1", "out", "tackled 1 bonus", "touch 1 bonus"}) {
            Story since = Story.of("raid 1 empty;raid 3 bonus;raid 2 " + result + ";raid 3 bonus;");
            Edge.all("MUST SCORE: since a RAID that was not empty", since, "empties(0) = 0");
            Edge.all("MUST SCORE: since a RAID that was not empty", since.then("raid(0, 0, 0, 0)"), "raidOf(4, 7) = 0", "empties(0) = 1", "is(0, 0) = 0");
            Story third = Story.of("raid 1 empty;raid 3 bonus;raid 1 empty;raid 3 bonus;raid 1 " + result + ";");
            Edge.all("MUST SCORE: ends by what is not empty", third, "raidOf(4, 7) = 1", "empties(0) = 0", "pressed(0, 0) = 1");
        }
        Edge.due("pressed: by which it had points: touch", two.then("raid(0, 1, 1, 0)"), "pressed(0, 1)", 1);
        Edge.due("pressed: by which it had points: tackled, a bonus", two.then("raid(0, 3, 0, 1)"), "pressed(0, 1)", 1);
        Edge.due("pressed: by which it had none: tackled", two.then("raid(0, 3, 0, 0)"), "pressed(0, 1)", 0);
        Edge.due("pressed: by which it had none: out", two.then("raid(0, 4, 0, 0)"), "pressed(0, 1)", 0);
        Story half = Story.of("raid 1 empty;raid 3 bonus;raid 1 empty;half;raid 3 bonus;");
        Edge.all("MUST SCORE: since the half", half, "empties(0) = 0");
        Edge.all("MUST SCORE: since the half", half.then("raid(0, 0, 0, 0)"), "raidOf(4, 7) = 0", "is(0, 0) = 0", "empties(0) = 1");
        Story across = Story.of("raid 1 empty;half;raid 3 bonus;raid 1 empty;raid 3 bonus;");
        Edge.all("MUST SCORE: not across the half", across.then("raid(0, 0, 0, 0)"), "raidOf(4, 7) = 0", "empties(0) = 2");
        Edge.all("MUST SCORE: of the other TEAM, too", Story.of("raid 1 bonus;raid 1 empty;raid 1 bonus;raid 1 empty;raid 1 bonus;raid 1 empty;"),
            "raidOf(5, 7) = 1", "is(1, 0) = 1", "empties(1) = 0", "empties(0) = 0", "score(0) = 4");
        Edge.all("MUST SCORE: other LINES aside",
            Story.of("raid 1 empty;raid 3 bonus;raid 1 empty;card a 1 green;change a 2 for 8;raid 3 bonus;review a lost;"), "empties(0) = 2");
        Edge.all("MUST SCORE: as ahead of a RAID that a won review took away", two.then("raid(0, 0, 0, 0)", "review(0, 1)"), "empties(0) = 2", "is(0, 0) = 0",
            "pressed(0, 0) = 0", "parts(1, 5) = 0");
        Edge.all("MUST SCORE: as ahead of an empty one", Story.of("raid 1 empty;raid 3 bonus;raid 1 empty;review b won;"), "empties(0) = 1");
        Story back = Story.of("raid 1 touch 3;raid 1 empty;raid 1 empty;raid 1 empty;raid 1 empty;raid 1 bonus;");
        Edge.all("MUST SCORE: a BACK", back.then("raid(0, 0, 0, 0)"), "raidOf(6, 8) = 1", "is(1, 2) = 0", "score(1) = 2");
        // Four OUT of b: n is 3, but an empty RAID is no SUPER tackle.
        Story few = Story.of("raid 1 touch 1,2,3,4;raid 5 bonus;raid 1 empty;raid 5 bonus;raid 1 empty;raid 5 bonus;");
        yesRaid("MUST SCORE: 1 point, of 3 as well", few, "0, 0, 0, 0", 0, 1, 6, 4);
    }

    // yellow: PUT OFF for the next 6 RAIDS (of both); those come ON whose RAIDS are over, then ALL OUT.
    private static void putOff() {
        Story story = Story.of("card a 7 yellow;");
        for (int left = 6; left >= 1; left--) {
            Edge.all("PUT OFF for the next 6 RAIDS", story, "is(0, 6) = 3", "wait(0, 6) = " + left, "those(0, 3) = 64", "those(0, 0) = 63");
            story = story.then("raid(1, 2, 0, 0)");
        }
        Edge.all("PUT OFF for the next 6 RAIDS: over", story, "is(0, 6) = 0", "wait(0, 6) = 0", "those(0, 3) = 0", "those(0, 0) = 127", "outs(0, 0) = -1");
        Edge.all("PUT OFF: by RAIDS, not by other LINES", Story.of("card a 7 yellow;half;card a 6 green;change a 5 for 8;"), "wait(0, 6) = 6");
        Edge.all("PUT OFF: as ahead of a RAID that a won review took away", Story.of("card a 7 yellow;raid 1 empty;review a won;"), "wait(0, 6) = 6");
        Edge.all("PUT OFF: it comes ON, and is none of the OUT ones",
            Story.of("raid 1 out;card a 1 yellow;" + "raid 2 bonus;".repeat(6)), "is(0, 0) = 0", "outs(0, 0) = -1");
        Edge.all("PUT OFF: two of them, each its own RAIDS",
            Story.of("card a 7 yellow;raid 1 bonus;card a 6 yellow;" + "raid 1 empty;".repeat(2)), "wait(0, 6) = 3", "wait(0, 5) = 4");
        Story sixth = Story.of("raid 1 bonus;card b 7 yellow;" + "raid 1 bonus;".repeat(5));
        yesRaid("come ON, then ALL OUT: not any more", sixth, "0, 1, 63, 1", 7, 0, 7, 1);
        Story fifth = Story.of("card b 7 yellow;" + "raid 1 bonus;".repeat(4));
        yesRaid("come ON, then ALL OUT: one RAID too early", fifth, "0, 1, 63, 1", 9, 0, 7, 6);
        String lastOne = "raid 1 touch 1,2,3,4,5;raid 6 bonus;card b 7 COLOUR;raid 1 empty;raid 6 bonus;raid 1 empty;half;raid 6 bonus;raid 1 empty;";
        yesRaid("come ON, then ALL OUT of the RAIDER's TEAM: not any more", Story.of(lastOne.replace("COLOUR", "yellow")), "5, 4, 0, 0", 0, 1, 1, 7);
        yesRaid("ALL OUT of the RAIDER's TEAM: SENT OFF for good", Story.of(lastOne.replace("COLOUR", "red")), "5, 4, 0, 0", 0, 3, 6, 7);
        Edge.due("PUT OFF cannot raid", story.then("undo()", "raid(0, 3, 0, 0)"), "is(0, 6)", 0);
    }

    // ALL OUT: a TEAM that has nobody ON, and somebody OUT.
    private static void allOut() {
        Story last = Story.of("raid 1 touch 1,2,3,4,5,6;");
        Edge.all("ALL OUT: not with one ON", last, "score(0) = 6", "those(1, 0) = 64", "allOut(1, 0) = -1", "parts(0, 4) = 0");
        yesRaid("ALL OUT of the RAIDER's TEAM: out", last, "6, 4, 0, 0", 0, 3, 7, 7);
        yesRaid("ALL OUT of the RAIDER's TEAM: tackled", last, "6, 3, 0, 0", 0, 3, 7, 7);
        yesRaid("ALL OUT of the RAIDER's TEAM: tackled, a bonus", last, "6, 3, 0, 1", 1, 3, 7, 7);
        yesRaid("no ALL OUT: a BACK by a touch", last, "6, 1, 1, 0", 1, 0, 2, 6);
        Story must = Story.of("raid 1 touch 1,2,3,4,5,6;raid 7 empty;raid 1 empty;raid 7 empty;raid 1 empty;");
        yesRaid("ALL OUT of the RAIDER's TEAM: MUST SCORE", must, "6, 0, 0, 0", 0, 3, 7, 7);
        yesRaid("ALL OUT of the touched TEAM: the last one", last.then("raid(6, 0, 0, 0)"), "0, 1, 64, 0", 3, 0, 7, 7);
        Edge.all("ALL OUT: all its OUT ones are ON", FIRST.then("raid(0, 1, 127, 1)"), "those(1, 0) = 127", "those(1, 1) = 0", "those(1, 2) = 128",
            "outs(1, 0) = -1", "parts(0, 4) = 2", "parts(0, 0) = 7", "parts(0, 1) = 1", "of(1, 6, 5) = 1", "of(0, 0, 1) = 8", "allOut(1, 0) = 0", "raidOf(0, 8) = 0");
        Story other = Story.of("raid 1 empty;");
        yesRaid("ALL OUT of TEAM 0", other, "0, 1, 127, 1", 10, 0, 7, 7);
        Edge.all("ALL OUT of TEAM 0", other.then("raid(0, 1, 127, 1)"), "allOut(0, 0) = 1", "allOut(0, 1) = -1", "allOut(1, 0) = -1", "parts(1, 4) = 2", "parts(0, 4) = 0", "those(0, 2) = 384");
        Story its = other.then("raid(0, 1, 126, 0)");
        yesRaid("ALL OUT of TEAM 0, by its own RAID", its, "0, 4, 0, 0", 0, 3, 7, 7);
        Edge.all("ALL OUT of TEAM 0, by its own RAID", its.then("raid(0, 4, 0, 0)"), "allOut(0, 0) = 2", "allOut(1, 0) = -1", "parts(1, 4) = 2", "parts(0, 4) = 0", "parts(1, 5) = 1");
        // Six SENT OFF, one ON: touched, it is ALL OUT and ON again.
        Story lone = Story.of(ALL_RED.replace("card b 7 red;", ""));
        yesRaid("ALL OUT of one alone", lone, "0, 1, 64, 0", 3, 0, 7, 1);
        Story nobody = Story.of(ALL_RED);
        Edge.all("ALL OUT: not with nobody OUT", nobody, "those(1, 0) = 0", "score(0) = 0", "parts(0, 4) = 0");
        yesRaid("ALL OUT: not with nobody OUT, behind a RAID", nobody, "0, 0, 0, 0", 0, 0, 7, 0);
        yesRaid("out against nobody", nobody, "0, 4, 0, 0", 0, 1, 6, 0);
        noRaid("touch of nobody", nobody, "0, 1, 1, 0", -6);
        noRaid("tackled by nobody", nobody, "0, 3, 0, 0", -6);
        noRaid("a RAID of a TEAM that has nobody ON", nobody.then("raid(0, 0, 0, 0)"), "0, 0, 0, 0", -6);
        // One PUT OFF, none ON, one OUT by and by: ALL OUT leaves PUT OFF and SENT OFF ones as they are.
        Edge.all("ALL OUT: OUT ones alone", Story.of("card b 1 yellow;card b 2 red;raid 1 touch 3,4,5,6,7;"), "score(0) = 7", "is(1, 0) = 3", "is(1, 1) = 4",
            "is(1, 7) = 2", "those(1, 0) = 124");
    }

    // promise 36: -2 (result, set, with as told); -6: it can't be.
    private static void raidsRefused() {
        Story[] stories = {FIRST, OVER, FULL, Story.of("half;")};
        for (Story story : stories) {
            int sizeOfOther = story == FIRST || story == FULL ? 8 : 9;
            int size = 17 - sizeOfOther;
            for (String raider : new String[] {"-1", String.valueOf(size), "MIN", "MAX"}) {
                noRaid("no such PLAYER", story, raider + ", 0, 0, 0", -2);
            }
            for (String result : new String[] {"-1", "5", "MIN", "MAX"}) {
                noRaid("result 0 .. 4", story, "0, " + result + ", 0, 0", -2);
                noRaid("result 0 .. 4", story, "0, " + result + ", 1, 0", -2);
            }
            for (String set : new String[] {"0", "-1", String.valueOf(1 << sizeOfOther), String.valueOf((1 << sizeOfOther) + 1), "MIN", "MAX", "-2147483647"}) {
                noRaid("set: bits of touched ones (one at least)", story, "0, 1, " + set + ", 0", -2);
            }
            for (String set : new String[] {"-1", String.valueOf(sizeOfOther), "32", "MIN", "MAX"}) {
                noRaid("set: the one who tackles", story, "0, 3, " + set + ", 0", -2);
            }
            for (String result : new String[] {"0", "2", "4"}) {
                for (String set : new String[] {"1", "-1", "2", "MIN", "MAX"}) {
                    noRaid("set: 0 else", story, "0, " + result + ", " + set + ", 0", -2);
                }
                for (String with : new String[] {"1", "-1", "2", "MIN", "MAX"}) {
                    noRaid("with: 0 else", story, "0, " + result + ", 0, " + with, -2);
                }
            }
            for (String with : new String[] {"-1", "2", "MIN", "MAX"}) {
                noRaid("with 1: a bonus", story, "0, 1, 1, " + with, -2);
                noRaid("with 1: a bonus", story, "0, 3, 1, " + with, -2);
            }
            noRaid("-2 ahead of -6: a raider who WAITS", story, "7, 0, 1, 0", -2);
            noRaid("-2 ahead of -6: a raider who WAITS", story, "7, 1, 0, 0", -2);
            noRaid("-2 ahead of -6: a raider who WAITS", story, "7, 4, 0, 1", -2);
        }
        noRaid("the raider WAITS", FIRST, "7, 0, 0, 0", -6);
        noRaid("the raider WAITS, the last one", FIRST, "8, 4, 0, 0", -6);
        noRaid("the raider is OUT", Story.of("raid 1 touch 2;"), "1, 0, 0, 0", -6);
        noRaid("the raider is PUT OFF", Story.of("card a 2 yellow;"), "1, 0, 0, 0", -6);
        noRaid("the raider is SENT OFF", Story.of("card a 2 red;"), "1, 0, 0, 0", -6);
        Story odd = Story.of("raid 1 touch 2;raid 1 bonus;card b 3 yellow;card b 4 red;");
        for (int i : new int[] {1, 2, 3, 7}) {
            noRaid("touch: those are ON", odd, "0, 1, " + (1 << i) + ", 0", -6);
            noRaid("touch: those are ON, all of them", odd, "0, 1, " + (1 << i | 1) + ", 0", -6);
            noRaid("tackled: by one who is ON", odd, "0, 3, " + i + ", 0", -6);
        }
        noRaid("touch: all PLAYERS", FIRST, "0, 1, 255, 0", -6);
        for (String raid : new String[] {"0, 0, 0, 0", "0, 1, 1, 0", "0, 2, 0, 0", "0, 3, 0, 0", "0, 4, 0, 0"}) {
            noRaid("all is over", OVER, raid, -6);
            noRaid("a 201st RAID", FULL, raid, -6);
        }
    }

    // There can be 200 RAIDS (a won review takes a RAID away, not itself).
    private static void raidsAtLimits() {
        Story most = Story.of("raid1out;".repeat(199));
        yesRaid("the 200th RAID", most, "0, 4, 0, 0", 0, 1, 6, 7);
        Edge.due("200 RAIDS", most.then("raid(0, 4, 0, 0)"), "count(2)", 200);
        noRaid("a 201st RAID", most.then("raid(0, 4, 0, 0)"), "0, 4, 0, 0", -6);
        Edge.undone("a won review takes a RAID away", FULL, "review(0, 1)", 199);
        yesRaid("a RAID in its place", FULL.then("review(0, 1)"), "0, 4, 0, 0", 0, 1, 6, 7);
        noRaid("a lost one takes none away", FULL.then("review(0, 0)"), "0, 4, 0, 0", -6);
        noRaid("a half gives none", FULL.then("half()"), "0, 4, 0, 0", -6);
        Edge.due("other LINES behind 200 RAIDS: card", FULL, "card(0, 1, 2)", 4);
        Edge.due("other LINES behind 200 RAIDS: change", FULL, "change(0, 1, 7)", 1);
        Edge.due("other LINES behind 200 RAIDS: half", FULL, "half()", 1);
        Edge.due("undo of the 200th", most.then("raid(0, 4, 0, 0)", "undo()"), "raid(0, 2, 0, 0)", 1);
        yesRaid("a RAID behind 40 other LINES", NO_OTHERS, "0, 2, 0, 0", 1, 0, 7, 7);
    }

    // promise 26
    private static void foresight() {
        for (String what : new String[] {"-1", "4", "MIN", "MAX"}) {
            Edge.refused("would: what 0 .. 3", FIRST, "would(0, 2, 0, 0, " + what + ")", -2);
            Edge.refused("would: -2 ahead of -6", FIRST, "would(7, 2, 0, 0, " + what + ")", -2);
            Edge.refused("would: -2 ahead of -6", OVER, "would(0, 2, 0, 0, " + what + ")", -2);
            Edge.refused("would: -2 ahead of -6", FULL, "would(0, 2, 0, 0, " + what + ")", -2);
        }
        Edge.all("would: MUST SCORE told, not done", Story.of("raid 1 empty;raid 3 bonus;raid 1 empty;raid 3 bonus;"), "would(0, 0, 0, 0, 1) = 1",
            "would(0, 0, 0, 0, 2) = 6", "empties(0) = 2", "would(0, 0, 0, 0, 1) = 1");
    }

    // promise 37: a card can be of one who is ON, OUT; red also of one who is PUT OFF.
    private static void cards() {
        Story base = Story.of("raid 1 touch 3,1;raid 2 empty;card b 4 yellow;card b 5 red;");
        for (int colour = 0; colour <= 2; colour++) {
            Edge.refused("card: of one who WAITS", base, "card(1, 7, " + colour + ")", -6);
            Edge.refused("card: of one who is SENT OFF", base, "card(1, 4, " + colour + ")", -6);
            Edge.refused("card: all is over", OVER, "card(0, 0, " + colour + ")", -6);
            Edge.refused("card: all is over, of one who is OUT", OVER, "card(1, 1, " + colour + ")", -6);
            Edge.refused("card: a 41st other LINE", NO_OTHERS, "card(0, 0, " + colour + ")", -6);
            Edge.undone("card: of one who is ON", base, "card(1, 1, " + colour + ")", new int[] {0, 3, 4}[colour]);
            Edge.undone("card: of one who is OUT", base, "card(1, 2, " + colour + ")", new int[] {1, 3, 4}[colour]);
        }
        Edge.refused("card: green of one who is PUT OFF", base, "card(1, 3, 0)", -6);
        Edge.refused("card: yellow of one who is PUT OFF", base, "card(1, 3, 1)", -6);
        Edge.undone("card: red also of one who is PUT OFF", base, "card(1, 3, 2)", 4);
        Edge.refused("card: -2 ahead of -6", base, "card(1, 7, 3)", -2);
        Edge.refused("card: -2 ahead of -6", OVER, "card(1, 8, 2)", -2);
        Edge.all("card: green of one who is OUT: it stands where it did", base.then("card(1, 2, 0)"), "is(1, 2) = 1", "outs(1, 0) = 2", "outs(1, 1) = 0", "of(1, 2, 7) = 1");
        Edge.all("card: yellow of one who is OUT: none of the OUT ones", base.then("card(1, 2, 1)"), "outs(1, 0) = 0", "outs(1, 1) = -1", "wait(1, 2) = 6", "of(1, 2, 7) = 0");
        Edge.all("card: red of one who is OUT: none of the OUT ones", base.then("card(1, 0, 2)"), "outs(1, 0) = 2", "outs(1, 1) = -1", "wait(1, 0) = 0");
        Edge.all("card: red of one who is PUT OFF: no RAIDS to wait", base.then("card(1, 3, 2)"), "wait(1, 3) = 0", "is(1, 3) = 4");
        Edge.all("card: red: for good", base.then("card(1, 3, 2)", "raid(0, 0, 0, 0)", "raid(1, 2, 0, 0)", "raid(0, 0, 0, 0)",
            "raid(1, 2, 0, 0)", "raid(0, 4, 0, 0)", "raid(1, 2, 0, 0)", "raid(1, 0, 0, 0)"), "count(2) = 9", "is(1, 3) = 4");
        // each second one of a PLAYER is a yellow
        Edge.undone("green: noted", FIRST, "card(0, 0, 0)", 0);
        Edge.all("green: noted", FIRST.then("card(0, 0, 0)"), "of(0, 0, 7) = 1", "wait(0, 0) = 0");
        Story green = FIRST.then("card(0, 0, 0)");
        Edge.undone("green: each second one is a yellow", green, "card(0, 0, 0)", 3);
        Edge.all("green: each second one is a yellow", green.then("card(0, 0, 0)"), "of(0, 0, 7) = 2", "wait(0, 0) = 6");
        Edge.due("green: of another PLAYER it is the first", green, "card(0, 1, 0)", 0);
        Edge.due("green: of the other TEAM's PLAYER it is the first", green, "card(1, 0, 0)", 0);
        String six = "raid 2 bonus;".repeat(6);
        Story twice = Story.of("card a 1 green;card a 1 green;" + six);
        Edge.due("green: the third is none", twice, "card(0, 0, 0)", 0);
        Edge.due("green: the fourth is a yellow", twice.then("card(0, 0, 0)"), "card(0, 0, 0)", 3);
        Edge.due("green: a yellow is none of them", Story.of("card a 1 yellow;" + six), "card(0, 0, 0)", 0);
        Edge.due("green: a second one of one who is OUT", Story.of("card a 1 green;raid 1 out;"), "card(0, 0, 0)", 3);
        Story both = Story.of("card a 1 green;");
        Edge.undone("yellow: of one who has a green", both, "card(0, 0, 1)", 3);
        Edge.all("yellow: of one who has a green", both.then("card(0, 0, 1)"), "wait(0, 0) = 6", "of(0, 0, 7) = 1");
        Edge.due("green: the second, a yellow between", Story.of("card a 1 green;card a 1 yellow;" + six), "card(0, 0, 0)", 3);
        Edge.due("red: of one who has a green", both, "card(0, 0, 2)", 4);
        Edge.due("green: across the half", Story.of("card a 1 green;half;"), "card(0, 0, 0)", 3);
        Edge.all("card: the 40th other LINE", Story.of("raid1out;review a won;".repeat(39)), "card(0, 0, 2) = 4", "count(3) = 40");
    }

    // Behind a card ALL OUT of that TEAM likewise.
    private static void cardsAllOut() {
        Story last = Story.of("raid 1 touch 1,2,3,4,5,6;");
        Edge.undone("ALL OUT behind a yellow", last, "card(1, 6, 1)", 3);
        Edge.undone("ALL OUT behind a red", last, "card(1, 6, 2)", 4);
        Edge.undone("ALL OUT behind a second green", last.then("card(1, 6, 0)"), "card(1, 6, 0)", 3);
        for (String card : new String[] {"card(1, 6, 1)", "card(1, 6, 2)"}) {
            Edge.all("ALL OUT behind a card", last.then(card), "score(0) = 8", "score(1) = 0", "parts(0, 4) = 2", "those(1, 0) = 63", "outs(1, 0) = -1",
                "lead(1) = 8", "raidOf(0, 3) = 6", "allOut(1, 0) = -1", "gained(0, 0, 1) = 6", "behind(1) = 8");
        }
        Edge.all("ALL OUT behind a second green", last.then("card(1, 6, 0)", "card(1, 6, 0)"), "score(0) = 8", "those(1, 0) = 63");
        Edge.all("no ALL OUT behind a first green", last.then("card(1, 6, 0)"), "score(0) = 6", "those(1, 0) = 64");
        Edge.all("no ALL OUT: one of the OUT ones", last.then("card(1, 0, 2)"), "score(0) = 6", "those(1, 1) = 62");
        Edge.all("no ALL OUT: of the other TEAM", last.then("card(0, 0, 2)"), "score(0) = 6", "score(1) = 0");
        Edge.all("no ALL OUT: nobody is OUT", Story.of(ALL_RED), "score(0) = 0", "those(1, 0) = 0");
        Story off = Story.of(ALL_RED.replace("7 red", "7 yellow"));
        Edge.all("no ALL OUT: PUT OFF is not OUT", off, "score(0) = 0", "those(1, 0) = 0", "those(1, 3) = 64");
        Edge.all("no ALL OUT: red of the one PUT OFF", off.then("card(1, 6, 2)"), "score(0) = 0", "those(1, 4) = 127");
        Edge.all("ALL OUT of TEAM 0 behind a card", Story.of("raid 1 empty;raid 1 touch 1,2,3,4,5,6;card a 7 red;"), "score(1) = 8", "those(0, 0) = 63", "lead(2) = -8");
    }

    // promise 38: one who is ON goes to WAIT, one who WAITS is ON in place; 5 of a TEAM at most.
    private static void changes() {
        Story base = Story.of("raid 1 touch 3;raid 1 empty;card b 4 yellow;card b 5 red;");
        for (int i : new int[] {2, 3, 4, 7}) {
            Edge.refused("change: one who is ON goes", base, "change(1, " + i + ", 7)", -6);
        }
        for (int i : new int[] {0, 1, 2, 3, 4}) {
            Edge.refused("change: one who WAITS is ON in place", base, "change(1, 0, " + i + ")", -6);
        }
        Edge.refused("change: all is over", OVER, "change(0, 0, 7)", -6);
        Edge.refused("change: a 41st other LINE", NO_OTHERS, "change(0, 0, 7)", -6);
        Edge.refused("change: -2 ahead of -6", OVER, "change(0, 0, 9)", -2);
        Edge.refused("change: -2 ahead of -6", base, "change(1, 2, 8)", -2);
        Edge.refused("change: -2 ahead of -6", base, "change(1, 8, 0)", -2);
        Edge.undone("change", base, "change(1, 0, 7)", 1);
        Edge.all("change: WAITS, ON", base.then("change(1, 0, 7)"), "is(1, 0) = 2", "is(1, 7) = 0", "count(3) = 3");
        Story story = FIRST;
        for (int n = 1; n <= 5; n++) {
            String call = n % 2 == 1 ? "change(0, 0, 7)" : "change(0, 7, 0)";
            Edge.undone("change: 5 of a TEAM", story, call, n);
            story = story.then(call);
        }
        Edge.refused("change: 5 of a TEAM at most", story, "change(0, 7, 0)", -6);
        Edge.refused("change: 5 of a TEAM at most, others too", story, "change(0, 1, 8)", -6);
        Edge.due("change: of a TEAM: the other one's first", story, "change(1, 0, 7)", 1);
        Edge.refused("change: a half gives none back", story.then("half()"), "change(0, 7, 0)", -6);
        Edge.due("change: undone it is none", story.then("undo()"), "change(0, 0, 8)", 5);
        Edge.due("change: the 40th other LINE", Story.of("raid1out;review a won;".repeat(39)), "change(0, 0, 7)", 1);
        Edge.refused("change: a TEAM of seven has nobody who WAITS",
            Story.blank().text("team a:1,2,3,4,5,6,7;team b:1,2,3,4,5,6,7;"), "change(0, 0, 7)", -2);
    }

    // promise 39: half: once, a second half ends all.
    private static void halves() {
        Story base = Story.of("raid 1 touch 3;raid 1 empty;raid 2 out;card a 4 yellow;");
        Edge.undone("half: a half is over", base, "half()", 1);
        Edge.all("half: RAIDS stand, ON, OUT stay", base.then("half()"), "count(2) = 3", "count(4) = 1", "is(0, 1) = 1", "is(0, 3) = 3", "wait(0, 3) = 6", "score(0) = 1",
            "score(1) = 1", "turn() = 1", "empties(1) = 0");
        Edge.undone("half: a second one ends all", base.then("half()"), "half()", 2);
        Story over = base.then("half()", "half()");
        Edge.all("half: a second one ends all", over, "count(4) = 2", "turn() = -1", "bonus() = -1", "most() = -1", "may(0) = 0", "may(1) = 0", "score(0) = 1");
        Edge.refused("half: no third", over, "half()", -6);
        noRaid("half: no raid then", over, "0, 0, 0, 0", -6);
        Edge.refused("half: no card then", over, "card(0, 0, 2)", -6);
        Edge.refused("half: no change then", over, "change(0, 0, 7)", -6);
        Edge.refused("half: no review then", over, "review(0, 1)", -6);
        Edge.refused("half: a 41st other LINE", NO_OTHERS, "half()", -6);
        Edge.due("half: the 40th other LINE", Story.of("raid1out;review a won;".repeat(39)), "half()", 1);
        Edge.due("half: ahead of any RAID", FIRST, "half()", 1);
        Edge.due("half: at once a second one", FIRST.then("half()"), "half()", 2);
        Edge.due("half: undone, all goes on", over.then("undo()"), "raid(0, 0, 0, 0)", 0);
    }

    // promises 40, 41: review: of the latest LINE, if it is a RAID.
    private static void reviews() {
        Story raid = Story.of("raid 1 empty;raid 1 touch 2,1 bonus;");
        for (int team = 0; team < 2; team++) {
            for (int won = 0; won < 2; won++) {
                String call = "review(" + team + ", " + won + ")";
                Edge.undone("review: of the latest LINE", raid, call, 2 - won);
                none("no LINE ahead", FIRST, team, call);
                none("the latest LINE is a card", raid.then("card(0, 4, 0)"), team, call);
                none("the latest LINE is a change", raid.then("change(0, 4, 7)"), team, call);
                none("the latest LINE is a half", raid.then("half()"), team, call);
                none("behind a won review", raid.then("review(0, 1)"), team, call);
                none("behind a lost review", raid.then("review(1, 0)"), team, call);
                none("behind a lost review of the other TEAM", raid.then("review(0, 0)"), team, call);
                none("all is over", raid.then("half()", "raid(3, 0, 0, 0)", "half()"), team, call);
                none("a 41st other LINE", NO_OTHERS, team, call);
                none("lost: not another one in this half", raid.then("review(" + team + ", 0)", "raid(3, 0, 0, 0)"), team, call);
                Edge.due("lost: the other TEAM can", raid.then("review(" + (1 - team) + ", 0)", "raid(3, 0, 0, 0)"), call, 3 - won);
                Edge.due("lost: in another half it can", raid.then("review(" + team + ", 0)", "half()", "raid(3, 0, 0, 0)"), call, 3 - won);
                Edge.due("won: it can ask again", raid.then("review(" + team + ", 1)", "raid(3, 0, 0, 0)"), call, 2 - won);
                Edge.due("the 40th other LINE", Story.of("raid1out;review a won;".repeat(39) + "raid1out;"), call, 1 - won);
            }
        }
        Story won = raid.then("review(0, 1)");
        Portrait.same("won: all is as ahead of it, but for the review itself", won.then("undo()", "undo()"), Story.of("raid 1 empty;").then("undo()"));
        Edge.all("won: all is as ahead of it (it is no RAID then)", won, "count(2) = 1", "count(3) = 1", "score(1) = 0", "those(0, 0) = 127", "turn() = 1", "outs(0, 0) = -1",
            "of(1, 0, 0) = 0", "of(1, 0, 1) = 0", "of(1, 0, 2) = 0", "of(0, 1, 5) = 0", "parts(1, 0) = 0", "parts(1, 1) = 0", "raidOf(1, 0) = -1", "lead(2) = -1000", "lead(1) = 0",
            "empties(0) = 1", "last(1, 0) = -1", "lasted(0, 0) = 1", "stood(0, 1) = -1", "met(1, 0, 1, 0) = 0", "first(1, 0, 0) = -1", "streak(1, 0) = 0");
        Edge.all("lost: all stays", raid.then("review(0, 0)"), "count(2) = 2", "count(3) = 1", "score(1) = 3", "those(0, 0) = 124", "turn() = 0");
        Edge.refused("review: -2 ahead of -6", FIRST, "review(0, 2)", -2);
        Edge.refused("review: -2 ahead of -6", OVER, "review(2, 0)", -2);
        Edge.all("may: 1 now", raid, "may(0) = 1", "may(1) = 1");
        Edge.all("may: one lost", raid.then("review(0, 0)", "raid(3, 0, 0, 0)"), "may(0) = 0", "may(1) = 1");
        Edge.all("may: behind a TEXT's last LINE that is a RAID", Story.of("half;raid 1 empty;"), "may(0) = 1");
        // A tackle (a SUPER one, ALL OUT, one PUT OFF who came ON) taken away, with all that it told of.
        Story rich = Story.of("raid 1 touch 1,2,3,4;card a 7 yellow;raid 5 empty;raid 1 empty;raid 5 empty;raid 1 empty;raid 5 bonus;");
        Edge.due("a RAID with a SUPER tackle", rich, "raid(0, 3, 4, 0)", 0);
        Portrait.same("won: all as ahead of a SUPER tackle", rich.then("raid(0, 3, 4, 0)", "review(1, 1)", "undo()", "undo()"), rich);
        Edge.all("won: all as ahead of a SUPER tackle", rich.then("raid(0, 3, 4, 0)", "review(1, 1)"), "wait(0, 6) = 1", "is(0, 6) = 3", "is(0, 0) = 0", "of(1, 4, 3) = 0",
            "of(1, 4, 4) = 0", "parts(1, 2) = 0", "parts(1, 3) = 0", "of(0, 0, 5) = 0", "outs(1, 0) = 0", "score(1) = 1", "empties(0) = 2");
        Story all = FIRST.then("raid(0, 1, 127, 1)");
        Edge.all("won: all as ahead of ALL OUT", all.then("review(1, 1)"), "score(0) = 0", "parts(0, 4) = 0", "parts(0, 0) = 0", "parts(0, 1) = 0", "allOut(1, 0) = -1", "great(0) = 0",
            "of(1, 3, 5) = 0", "turn() = 0", "lasted(1, 0) = 0", "lives(0) = 0");
        // A card's points stay with the RAID ahead when the RAID behind the card is taken away.
        Edge.all("won: a card's points stay", Story.of("raid 1 touch 1,2,3,4,5,6;card b 7 red;raid 1 bonus;review a won;"), "lead(1) = 8", "score(0) = 8", "score(1) = 0");
    }

    private static void none(String sentence, Story story, int team, String call) {
        Edge.refused("review: " + sentence, story, call, -6);
        Edge.due("may: " + sentence, story, "may(" + team + ")", 0);
    }

    // promise 42
    private static void undone() {
        Story base = Story.of("raid 1 touch 3,1 bonus;raid 4 tackled 2 bonus;card b 5 yellow;card a 2 green;change a 3 for 8;raid 1 empty;review b lost;raid 2 bonus;");
        for (String act : new String[] {"raid(0, 0, 0, 0)", "raid(0, 1, 66, 0)", "raid(0, 3, 1, 0)", "raid(0, 4, 0, 0)"}) {
            Edge.undone("undo: the latest act", base, act, act.contains("66") ? 2 : 0);
        }
        Edge.undone("undo: a card", base, "card(0, 1, 0)", 3);
        Edge.undone("undo: a card", base, "card(1, 4, 2)", 4);
        Edge.undone("undo: a card", base, "card(1, 3, 1)", 3);
        Edge.undone("undo: a change", base, "change(0, 7, 2)", 2);
        Edge.undone("undo: a half", base, "half()", 1);
        Edge.undone("undo: a second half", base.then("half()"), "half()", 2);
        Edge.undone("undo: a won review", base, "review(0, 1)", 3);
        Edge.undone("undo: a lost review", base, "review(0, 0)", 4);
        Portrait.same("undo: text() too", base.text(Talk.TEAMS + "raid 2 out;half;").then("undo()"), base);
        Portrait.same("undo: text() too, with acts behind it", base.text(Talk.TEAMS + "raid 2 out;").then("raid(1, 0, 0, 0)", "half()", "undo()", "undo()", "undo()"), base);
        Portrait.same("undo: then what was ahead of text()", base.then("half()").text(Talk.TEAMS).then("undo()", "undo()"), base);
        Portrait.same("undo: a review, the RAID of it", base.then("raid(0, 0, 0, 0)", "review(0, 1)", "undo()", "undo()"), base);
        Edge.all("undo: the RAID can be reviewed again", base.then("review(0, 1)", "undo()"), "may(0) = 1", "review(0, 1) = 3");
        Portrait.same("undo: another act in a text()'s place", base.text(Talk.TEAMS + "raid 2 out;").then("undo()", "half()", "undo()"), base);
        Portrait.same("undo: other acts in the places of an act and a text()",
            base.then("half()").text(Talk.TEAMS + "raid 2 out;").then("undo()", "undo()", "raid(0, 0, 0, 0)", "raid(1, 4, 0, 0)", "undo()"), base.then("raid(0, 0, 0, 0)"));
        Portrait.same("undo: a text() in another act's place", base.then("half()", "undo()").text(Talk.TEAMS + "raid 2 out;").then("undo()"), base);
        Portrait.same("undo: another act in its place", base.then("raid(0, 4, 0, 0)", "undo()", "half()"), base.then("half()"));
        Edge.all("undo: OUT is as told last", base.then("tell(0)", "raid(0, 0, 0, 0)", "tell(1)", "undo()"), "count(7) = 49");
        Edge.all("undo: the TAPE stays", base.tape("abc").then("undo()"), "count(6) = 3");
        Edge.all("undo: how many can be", base.then("half()", "half()"), "count(5) = 3", "undo() = 2", "count(5) = 2", "undo() = 1", "undo() = 0", "undo() = -1", "count(5) = 0", "undo() = -1");
    }

    // The latest 10 can be undone one by one.
    private static void tenActs() {
        String[] ten = new String[10];
        String[] others = new String[10];
        String[] back = new String[10];
        for (int n = 0; n < 10; n++) {
            ten[n] = "raid(0, 2, 0, 0)";
            others[n] = "raid(1, 2, 0, 0)";
            back[n] = "undo()";
        }
        Edge.due("10 acts", FIRST.then(ten), "count(5)", 10);
        Edge.due("9 acts and the text()", FIRST.then(ten).then("undo()"), "count(5)", 9);
        Edge.due("12 acts: the latest 10", FIRST.then(ten).then("half()", "half()"), "count(5)", 10);
        Edge.due("12 acts: the first undo", FIRST.then(ten).then("half()", "half()"), "undo()", 9);
        Story twelve = FIRST.then("raid(0, 2, 0, 0)", "raid(0, 2, 0, 0)").then(ten).then(back);
        Edge.due("12 acts: count(5) then", twelve, "count(5)", 0);
        Edge.refused("12 acts: no more than 10", twelve, "undo()", -1);
        Portrait.same("12 acts: all as behind the second", twelve, Story.of("raid 1 bonus;raid 1 bonus;").then(others).then(back));
        Edge.due("undo(): the text() is one of the 10", Story.of("").then(ten).then("undo()"), "undo()", 8);
        Story nine = FIRST;
        for (int n = 0; n < 9; n++) {
            nine = nine.then("raid(0, 2, 0, 0)");
        }
        Edge.due("text() and 9 acts", nine, "count(5)", 10);
        Portrait.same("text() and 9 acts: all undone", nine.then(back), Story.blank());
        Story texts = Story.blank();
        for (int n = 0; n <= 11; n++) {
            texts = texts.text(Talk.TEAMS + "raid 1 bonus;".repeat(n));
        }
        Edge.due("12 texts: the latest 10", texts, "count(5)", 10);
        for (int n = 10; n >= 1; n--) {
            texts = texts.then("undo()");
            Edge.all("12 texts: undone", texts, "count(2) = " + n, "count(5) = " + (n - 1), "score(0) = " + (n + 1) / 2);
        }
        Edge.refused("12 texts: no more than 10", texts, "undo()", -1);
        Edge.due("acts behind undone ones", twelve.then("half()"), "count(5)", 1);
        Edge.refused("refused calls are no acts", nine, "raid(7, 0, 0, 0)", -6);
    }
}
