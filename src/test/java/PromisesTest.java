import java.util.Arrays;

/** For each promise of the document: ordinary inputs, the edges that it names, wrong inputs. */
public final class PromisesTest {
    // Shirts 1 .. 9 and 1 .. 8: a PLAYER's number is its SHIRT less one; 8 and 9 of a, 8 of b wait.
    private static final String TEAMS = Talk.TEAMS;
    private static final int MIN = Integer.MIN_VALUE;
    private static final int MAX = Integer.MAX_VALUE;

    public static void main(String[] args) {
        tape();
        texts();
        faults();
        faultsOfTurns();
        faultsOfLimits();
        counts();
        rosters();
        statuses();
        points();
        players();
        raidByRaid();
        leads();
        ranks();
        foresight();
        needs();
        meetings();
        rows();
        raids();
        raidRules();
        cards();
        changes();
        halves();
        reviews();
        undone();
        told();
        more();
        Talk.finish("PromisesTest");
    }

    private static void due(String call, long got, long want) {
        Talk.due(call, got, want);
    }

    private static String times(String text, int n) {
        StringBuilder s = new StringBuilder();
        for (int i = 0; i < n; i++) {
            s.append(text);
        }
        return s.toString();
    }

    private static void fault(String text, int number, int place) {
        RaidMat x = Talk.match("raid 1 bonus;");
        due("text() of " + text, Talk.text(x, text), number == 0 ? x.count(2) + x.count(3) : -4);
        due("fault(0) of " + text, x.fault(0), number);
        due("fault(1) of " + text, x.fault(1), place);
        due("count(6) behind " + text, x.count(6), 0);
        if (number != 0) {
            due("score(0) stays behind " + text, x.score(0), 1);
            due("count(5) stays behind " + text, x.count(5), 1);
        }
    }

    /** A FAULT at the sign ^ (which is not part of the text) behind the TEAMS. */
    private static void lineFault(String marked, int number) {
        int at = marked.indexOf('^');
        fault(TEAMS + marked.substring(0, at) + marked.substring(at + 1), number, TEAMS.length() + at);
    }

    private static void lineRight(String lines) {
        RaidMat x = new RaidMat();
        due("text() of " + lines, Talk.text(x, TEAMS + lines), lines.chars().filter(c -> c == ';').count());
        due("fault(0) of " + lines, x.fault(0), 0);
        due("fault(1) of " + lines, x.fault(1), -1);
    }

    // promises 1, 2, 3
    private static void tape() {
        RaidMat x = new RaidMat();
        for (int what = 0; what <= 7; what++) {
            due("count of a new one", x.count(what), 0);
        }
        due("turn of a new one", x.turn(), -2);
        due("end(1) of nothing", x.end(1), -1);
        due("end(0) of nothing", x.end(0), 0);
        for (int n = 1; n <= 100; n++) {
            due("feed", x.feed(n, -n, MIN, MAX, 0), 20 * n);
        }
        due("feed over 2000", x.feed(0, 0, 0, 0, 0), -1);
        due("count(6)", x.count(6), 2000);
        due("end(2001)", x.end(2001), -1);
        due("end(-1)", x.end(-1), -1);
        due("end(MIN)", x.end(MIN), -1);
        due("end(2000)", x.end(2000), 2000);
        due("end(1981)", x.end(1981), 1981);
        due("feed to 2001", x.feed(0, 0, 0, 0, 0), -1);
        due("end(1980)", x.end(1980), 1980);
        due("feed to 2000", x.feed(0, 0, 0, 0, 0), 2000);
        due("end(3)", x.end(3), 3);
        due("count(6) of 3", x.count(6), 3);

        RaidMat y = new RaidMat();
        due("bytes of numbers, the highest first", y.feed(0x7465616d, 0x20613a31, 0x2c322c33, 0x2c342c35, 0x2c362c37), 20);
        due("feed of blanks", y.feed(0x3b746561, 0x6d20623a, 0x312c322c, 0x332c342c, 0x352c362c), 40);
        due("feed of the rest", y.feed(0x373b2020, 0x0a0a2020, 0x20202020, 0x20202020, 0x20202020), 60);
        due("text() of numbers", y.text(), 0);
    }

    // promise 4
    private static void texts() {
        RaidMat x = new RaidMat();
        due("text() of no LINES", Talk.text(x, "team a:1,2,3,4,5,6,7;team b:1,2,3,4,5,6,7;"), 0);
        due("count(6)", x.count(6), 0);
        due("count(5)", x.count(5), 1);
        due("text() of blanks in odd places", Talk.text(x, "\nteam  abcdef\n:\n1 , 2,3,4,5,6,07,00000000000000000099;\n"
            + "team b:1,2,3,4,5,6,7,8,9,10;raid1empty;raid1touch7,1bonus;half;\n \n"), 3);
        due("shirt 07", x.shirt(0, 6), 7);
        due("shirt 0..099", x.shirt(0, 7), 99);
        due("letter", x.letter(0, 5), 6);
        due("touched as told", x.outs(0, 0), 6);
        due("touched as told", x.outs(0, 1), 0);
        due("a LINE of a RAID taken away counts", Talk.text(x, TEAMS + "raid 1 empty;review a won;raid 2 empty;"), 3);
        due("but the RAID does not", x.count(2), 1);
        due("text() of nothing", x.text(), -4);
        due("fault(0) of nothing", x.fault(0), 1);
        due("fault(1) of nothing", x.fault(1), 0);
        due("the TEXT stays", x.count(2), 1);
        due("the longest TAPE", Talk.text(x, TEAMS + times(" ", 2000 - TEAMS.length())), 0);
    }

    // promise 5, term I
    private static void faults() {
        RaidMat x = new RaidMat();
        due("fault(0) of a new one", x.fault(0), 0);
        due("fault(1) of a new one", x.fault(1), -1);
        due("fault(2)", x.fault(2), -1);
        due("fault(-1)", x.fault(-1), -1);
        due("fault(MIN)", x.fault(MIN), -1);
        fault("", 1, 0);
        fault("  ", 1, 2);
        fault("  half;", 1, 2);
        fault("teams a:1", 1, 0);
        fault("team", 1, 4);
        fault("team 5", 1, 5);
        fault("team A:1", 1, 5);
        fault("team abcdefg:1", 1, 5);
        for (String word : "team raid card change half review green yellow red for won lost empty touch bonus tackled out".split(" ")) {
            fault("team " + word + ":1", 1, 5);
        }
        fault("team a;1", 1, 6);
        fault("team a:;", 1, 7);
        fault("team a:b", 1, 7);
        fault("team a:1.2", 1, 8);
        fault("team a:1,", 1, 9);
        fault("team a:1,,", 1, 9);
        fault("team a:0", 2, 7);
        fault("team a:100", 2, 7);
        fault("team a:99999999999999999999999", 2, 7);
        fault("team a:1,2,1", 3, 11);
        fault("team a:1,2,01", 3, 11);
        fault("team a:1,2,3,4,5,6;", 6, 18);
        fault("team a:1,2,3,4,5,6,7,8,9,10,11", 6, 28);
        fault("team a:1,2,3,4,5,6,7,8,9,10,10", 3, 28);
        fault("team a:1,2,3,4,5,6,7,8,9,10,100", 2, 28);
        fault("team a:1,2,3,4,5,6,7,8,9,10,;", 1, 28);
        fault("team a:1,2,3,4,5,6,7;", 1, 21);
        fault("team a:1,2,3,4,5,6,7;\n", 1, 22);
        fault("team a:1,2,3,4,5,6,7;team a:1", 3, 26);
        fault("team a:1,2,3,4,5,6,7;raid", 1, 21);
        lineFault("^team c:1,2,3,4,5,6,7;", 1);
        lineFault("^;", 1);
        lineFault("^1", 1);
        lineFault("^a", 1);
        lineFault("^bonus", 1);
        lineFault("^\t", 1);
        lineFault("^\u00e9", 1);
        lineFault("raid ^", 1);
        lineFault("raid ^a", 1);
        lineFault("raid ^0 empty", 2);
        lineFault("raid ^100 empty", 2);
        lineFault("raid ^10 empty", 4);
        lineFault("raid 1 ^green", 1);
        lineFault("raid 1 ^;", 1);
        lineFault("raid 1 empty^", 1);
        lineFault("raid 1 empty ^bonus;", 1);
        lineFault("raid 1 bonus ^bonus;", 1);
        lineFault("raid 1 out ^2;", 1);
        lineFault("raid 1 touch ^bonus", 1);
        lineFault("raid 1 touch ^;", 1);
        lineFault("raid 1 touch 1,^;", 1);
        lineFault("raid 1 touch 1,^bonus;", 1);
        lineFault("raid 1 touch 1 ^2;", 1);
        lineFault("raid 1 touch 1 bonus^,2;", 1);
        lineFault("raid 1 touch ^9;", 4);
        lineFault("raid 1 touch ^0;", 2);
        lineFault("raid 1 tackled 1^,2;", 1);
        lineFault("raid 1 tackled ^9;", 4);
        lineFault("raid 1 tackled ^;", 1);
        lineFault("card ^c 1 red;", 4);
        lineFault("card ^red 1 red;", 1);
        lineFault("card ^abcdefg 1 red;", 1);
        lineFault("card ^1 1 red;", 1);
        lineFault("card b ^9 red;", 4);
        lineFault("card b ^100 red;", 2);
        lineFault("card b ^red;", 1);
        lineFault("card b 1 ^;", 1);
        lineFault("card b 1 ^blue;", 1);
        lineFault("card b 1 ^empty;", 1);
        lineFault("card b 1 red ^red;", 1);
        lineFault("change ^c 1 for 8;", 4);
        lineFault("change b ^9 for 8;", 4);
        lineFault("change b 1 ^8;", 1);
        lineFault("change b 1 for ^9;", 4);
        lineFault("change b 1 for ^for;", 1);
        lineFault("change b 1 for 8^", 1);
        lineFault("half ^half;", 1);
        lineFault("half^", 1);
        lineFault("raid 1 empty;review ^c won;", 4);
        lineFault("raid 1 empty;review a ^maybe;", 1);
        lineFault("raid 1 empty;review a ^;", 1);
        lineFault("raid 1 empty;review a won^", 1);
    }

    // term I: what can't be now
    private static void faultsOfTurns() {
        lineFault("raid ^8 empty;", 5);
        lineFault("raid 1 touch 1;raid ^1 empty;", 5);
        lineFault("raid 1 touch ^8;", 5);
        lineFault("raid 1 touch 1,^1;", 5);
        lineFault("raid 1 touch 1,2,3,4,5,6,7,^8;", 5);
        lineFault("raid 1 tackled ^8;", 5);
        lineFault("raid 1 touch 1,2;raid 3 out;raid 2 ^bonus;", 5);
        lineFault("raid 1 touch 1,2;raid 3 out;raid 2 touch 4 ^bonus;", 5);
        lineFault("raid 1 touch 1,2;raid 3 out;raid 2 tackled 4 ^bonus;", 5);
        lineRight("raid 1 touch 1;raid 3 empty;raid 2 bonus;");
        lineRight("raid 1 touch 1,2,3,4,5,6,7 bonus;");
        lineFault("card a ^8 red;", 5);
        lineFault("card a 1 red;card a ^1 red;", 5);
        lineFault("card a 1 yellow;card a 1 ^yellow;", 5);
        lineFault("card a 1 yellow;card a 1 ^green;", 5);
        lineFault("card a 1 yellow;card a 1 ^blue;", 1);
        lineRight("card a 1 yellow;card a 1 red;");
        lineRight("raid 1 touch 2;card b 2 yellow;card b 2 red;");
        lineFault("change a ^8 for 9;", 5);
        lineFault("change a 1 for ^2;", 5);
        lineFault("change a 1 for ^1;", 5);
        lineFault("raid 1 out;change a ^1 for 8;", 5);
        lineFault("change a 1 for 8;change a 8 for 1;change a 1 for 8;change a 8 for 1;change a 1 for 8;change a ^8 for 1;", 5);
        lineRight("change a 1 for 8;change a 8 for 1;change a 1 for 8;change a 8 for 1;change a 1 for 8;change b 1 for 8;");
        lineFault("half;half;^half;", 5);
        lineFault("half;half;raid ^1 empty;", 5);
        lineFault("half;half;raid ^100 empty;", 2);
        lineFault("half;half;card a ^1 red;", 5);
        lineFault("half;half;card a ^10 red;", 4);
        lineFault("half;half;change a ^1 for 8;", 5);
        lineFault("half;raid 1 empty;half;review ^a won;", 5);
        lineFault("review ^a won;", 5);
        lineFault("raid 1 empty;review b won;review ^a won;", 5);
        lineFault("raid 1 empty;card a 1 green;review ^a won;", 5);
        lineFault("raid 1 empty;review a lost;raid 1 empty;review ^a won;", 5);
        lineRight("raid 1 empty;review a lost;raid 1 empty;review b lost;half;raid 1 empty;review a lost;");
    }

    private static void faultsOfLimits() {
        String raids = times("raid1out;", 200);
        lineRight(raids);
        lineRight(raids + "half;");
        lineFault(raids + "^raid 1 out;", 7);
        lineFault(raids + "half;^raid 1 out;", 7);
        lineRight(raids + "review b won;raid 1 out;");
        String reviews = times("raid1out;review a won;", 40);
        lineRight(reviews + "raid 1 out;");
        lineFault(reviews + "^card a 1 red;", 7);
        lineFault(reviews + "^change a 1 for 8;", 7);
        lineFault(reviews + "^half;", 7);
        lineFault(reviews + "raid 1 out;^review a won;", 7);
        String almost = "half;" + times("raid1out;review a won;", 38) + "half;";
        lineRight(almost);
        lineFault(almost + "^half;", 7);
    }

    // promise 6
    private static void counts() {
        RaidMat x = Talk.match("raid 1 empty;card a 1 green;raid 1 empty;review b lost;half;");
        due("count(0)", x.count(0), 9);
        due("count(1)", x.count(1), 8);
        due("count(2)", x.count(2), 2);
        due("count(3)", x.count(3), 3);
        due("count(4)", x.count(4), 1);
        due("count(5)", x.count(5), 1);
        x.tell(0);
        due("count(7)", x.count(7), "raid 1 empty;raid 1 empty;".length());
        due("count(8)", x.count(8), -1);
        due("count(-1)", x.count(-1), -1);
        due("count(MAX)", x.count(MAX), -1);
    }

    // promises 7, 8, 9
    private static void rosters() {
        RaidMat x = new RaidMat();
        Talk.text(x, "team abz : 9,8,7,6,5,4,3,99;team zyxwvu:1,2,3,4,5,6,7;");
        int[] letters = {1, 2, 26, 0, 0, 0, 26, 25, 24, 23, 22, 21};
        for (int i = 0; i < 12; i++) {
            due("letter " + i, x.letter(i / 6, i % 6), letters[i]);
        }
        due("letter(0, 6)", x.letter(0, 6), -2);
        due("letter(0, -1)", x.letter(0, -1), -2);
        due("letter(2, 0)", x.letter(2, 0), -2);
        due("letter(-1, 0)", x.letter(-1, 0), -2);
        due("shirt(0, 0)", x.shirt(0, 0), 9);
        due("shirt(0, 7)", x.shirt(0, 7), 99);
        due("shirt(1, 7)", x.shirt(1, 7), -2);
        due("shirt(1, -1)", x.shirt(1, -1), -2);
        due("shirt(2, 0)", x.shirt(2, 0), -2);
        due("who(0, 9)", x.who(0, 9), 0);
        due("who(0, 99)", x.who(0, 99), 7);
        due("who(0, 1)", x.who(0, 1), -1);
        due("who(0, 0)", x.who(0, 0), -2);
        due("who(0, 100)", x.who(0, 100), -2);
        due("who(MIN, 1)", x.who(MIN, 1), -2);
    }

    // promises 10, 11, 12, 13, 48
    private static void statuses() {
        RaidMat x = Talk.match("raid 1 touch 5,2,7;card b 3 yellow;card b 1 red;raid 4 empty;");
        int[] due = {4, 1, 3, 0, 1, 0, 1, 2};
        for (int i = 0; i < due.length; i++) {
            due("is(1, " + i + ")", x.is(1, i), due[i]);
        }
        due("is(1, 8)", x.is(1, 8), -2);
        due("is(2, 0)", x.is(2, 0), -2);
        due("is(0, -1)", x.is(0, -1), -2);
        int[] those = {40, 82, 128, 4, 1};
        for (int what = 0; what < 5; what++) {
            due("those(1, " + what + ")", x.those(1, what), those[what]);
        }
        due("those(1, 5)", x.those(1, 5), -2);
        due("those(1, -1)", x.those(1, -1), -2);
        due("those(-1, 0)", x.those(-1, 0), -2);
        int[] order = {4, 1, 6, -1, -1};
        for (int k = 0; k < order.length; k++) {
            due("outs(1, " + k + ")", x.outs(1, k), order[k]);
        }
        due("outs(1, MAX)", x.outs(1, MAX), -1);
        due("outs(1, -1)", x.outs(1, -1), -2);
        due("outs(0, 0)", x.outs(0, 0), -1);
        due("outs(2, 0)", x.outs(2, 0), -2);
        due("wait(1, 2)", x.wait(1, 2), 5);
        due("wait(1, 0)", x.wait(1, 0), 0);
        due("wait(1, 8)", x.wait(1, 8), -2);
        due("wait(2, 2)", x.wait(2, 2), -2);

        RaidMat y = new RaidMat();
        Talk.text(y, "team a:50,3,99,1,20,7,8,2;team b:1,2,3,4,5,6,7;raid 99 out;");
        int[] on = {1, 3, 7, 8, 20, 50, -1};
        for (int k = 0; k < on.length; k++) {
            due("shirts(0, 0, " + k + ")", y.shirts(0, 0, k), on[k]);
        }
        due("shirts(0, 1, 0)", y.shirts(0, 1, 0), 99);
        due("shirts(0, 2, 0)", y.shirts(0, 2, 0), 2);
        due("shirts(0, 3, 0)", y.shirts(0, 3, 0), -1);
        due("shirts(0, 5, 0)", y.shirts(0, 5, 0), -2);
        due("shirts(0, -1, 0)", y.shirts(0, -1, 0), -2);
        due("shirts(0, 0, -1)", y.shirts(0, 0, -1), -2);
        due("shirts(2, 0, 0)", y.shirts(2, 0, 0), -2);
        due("shirts(0, 0, MAX)", y.shirts(0, 0, MAX), -1);
    }

    // promises 14, 15, 16, 17, 19
    private static void points() {
        RaidMat x = Talk.match("");
        due("score(0)", x.score(0), 0);
        due("score(2)", x.score(2), -2);
        due("turn()", x.turn(), 0);
        due("bonus()", x.bonus(), 1);
        due("empties(0)", x.empties(0), 0);
        x.raid(0, 1, 3, 1);
        due("score(0) by touches, bonus", x.score(0), 3);
        due("turn()", x.turn(), 1);
        due("bonus() of seven", x.bonus(), 1);
        x.raid(2, 0, 0, 0);
        due("bonus() of five", x.bonus(), 0);
        due("empties(1)", x.empties(1), 1);
        x.raid(0, 0, 0, 0);
        x.raid(2, 0, 0, 0);
        due("empties(1)", x.empties(1), 2);
        x.raid(0, 0, 0, 0);
        due("MUST SCORE: none", x.raid(2, 0, 0, 0), 0);
        due("empties(1) behind it", x.empties(1), 0);
        due("score(0)", x.score(0), 4);
        due("empties(0)", x.empties(0), 2);
        due("MUST SCORE: touch", x.raid(0, 1, 8, 0), 1);
        due("empties(0) behind it", x.empties(0), 0);
        due("empties(-1)", x.empties(-1), -2);
        due("tackled", x.raid(4, 3, 6, 1), 1);
        due("out", x.raid(6, 4, 0, 0), 0);
        due("score(0)", x.score(0), 6);
        due("score(1)", x.score(1), 2);
        int[] zero = {3, 1, 1, 0, 0, 1};
        int[] one = {0, 1, 0, 0, 0, 1};
        for (int what = 0; what < 6; what++) {
            due("parts(0, " + what + ")", x.parts(0, what), zero[what]);
            due("parts(1, " + what + ")", x.parts(1, what), one[what]);
        }
        due("parts(0, 6)", x.parts(0, 6), -2);
        due("parts(0, -1)", x.parts(0, -1), -2);
        due("parts(2, 0)", x.parts(2, 0), -2);
        x.half();
        due("turn() behind a half", x.turn(), 1);
        x.half();
        due("turn() when all is over", x.turn(), -1);
        due("bonus() when all is over", x.bonus(), -1);
        due("score(0) when all is over", x.score(0), 6);

        RaidMat y = Talk.match("raid 1 touch 1,2,3,4;raid 5 empty;raid 2 tackled 7;");
        due("SUPER: three of them ON", y.parts(1, 2), 1);
        due("SUPER: one more", y.parts(1, 3), 1);
        due("score(1)", y.score(1), 2);
        RaidMat z = Talk.match("raid 1 touch 1,2,3;raid 5 empty;raid 2 tackled 7;");
        due("four of them: not SUPER", z.parts(1, 3), 0);
    }

    // promises 18, 54, 55
    private static void players() {
        RaidMat x = Talk.match("raid 1 touch 1,2 bonus;raid 3 tackled 1 bonus;raid 1 empty;card a 1 green;raid 4 out;raid 2 tackled 5;");
        int[] first = {2, 3, 2, 1, 1, 0, 1, 1};
        for (int what = 0; what < 8; what++) {
            due("of(0, 0, " + what + ")", x.of(0, 0, what), first[what]);
        }
        due("of(1, 2, 0)", x.of(1, 2, 0), 1);
        due("of(1, 2, 1) with the bonus of a RAID tackled", x.of(1, 2, 1), 1);
        due("of(1, 2, 2)", x.of(1, 2, 2), 0);
        due("of(1, 2, 5)", x.of(1, 2, 5), 1);
        due("of(1, 0, 5)", x.of(1, 0, 5), 1);
        due("of(1, 3, 5)", x.of(1, 3, 5), 1);
        due("of(0, 1, 5)", x.of(0, 1, 5), 1);
        due("of(1, 4, 3)", x.of(1, 4, 3), 1);
        due("of(1, 4, 4)", x.of(1, 4, 4), 2);
        due("of(0, 8, 0)", x.of(0, 8, 0), 0);
        due("of(1, 8, 0)", x.of(1, 8, 0), -2);
        due("of(0, 0, 8)", x.of(0, 0, 8), -2);
        due("of(0, 0, -1)", x.of(0, 0, -1), -2);
        due("of(2, 0, 0)", x.of(2, 0, 0), -2);
        due("some(0, 0)", x.some(0, 0), 3);
        due("some(1, 5)", x.some(1, 5), 15);
        due("some(0, 7)", x.some(0, 7), 1);
        due("some(1, 7)", x.some(1, 7), 0);
        due("some(0, 8)", x.some(0, 8), -2);
        due("some(0, -1)", x.some(0, -1), -2);
        due("some(2, 0)", x.some(2, 0), -2);
        due("sum(0, 0)", x.sum(0, 0), 3);
        due("sum(1, 5)", x.sum(1, 5), 4);
        due("sum(0, 1)", x.sum(0, 1), 3);
        due("sum(0, 7)", x.sum(0, 7), 1);
        due("sum(0, 8)", x.sum(0, 8), -2);
        due("sum(-1, 0)", x.sum(-1, 0), -2);

        RaidMat y = Talk.match("raid 1 touch 1,2,3,4;raid 5 empty;raid 2 tackled 6;");
        due("a SUPER tackle is one tackle", y.of(1, 5, 3), 1);
        due("and two points", y.of(1, 5, 4), 2);
    }

    // promise 20
    private static void raidByRaid() {
        RaidMat x = Talk.match("raid 1 touch 3,1 bonus;raid 7 tackled 4 bonus;raid 2 empty;raid 6 bonus;raid 2 empty;raid 6 out;raid 2 empty;");
        int[][] due = {
            {0, 0, 1, 3, 0, 5, 1, 0, 0},
            {1, 6, 3, 1, 1, 3, 1, 0, 0},
            {0, 1, 0, 0, 0, -1, 0, 0, 0},
            {1, 5, 2, 1, 0, -1, 0, 0, 0},
            {0, 1, 0, 0, 0, -1, 0, 0, 0},
            {1, 5, 4, 0, 1, -1, 0, 0, 0},
            {0, 1, 0, 0, 1, -1, 0, 1, 1},
        };
        for (int k = 0; k < due.length; k++) {
            for (int what = 0; what <= 8; what++) {
                due("raidOf(" + k + ", " + what + ")", x.raidOf(k, what), due[k][what]);
            }
        }
        due("the one who went first came BACK", x.is(1, 2), 0);
        due("raidOf(7, 0)", x.raidOf(7, 0), -1);
        due("raidOf(MAX, 0)", x.raidOf(MAX, 0), -1);
        due("raidOf(-1, 0)", x.raidOf(-1, 0), -2);
        due("raidOf(0, 9)", x.raidOf(0, 9), -2);
        due("raidOf(0, -1)", x.raidOf(0, -1), -2);
        due("raidOf(7, 9): -2 ahead of NONE", x.raidOf(7, 9), -2);

        RaidMat y = Talk.match("raid 1 touch 1,2,3,4,5,6,7 bonus;");
        due("ALL OUT with them", y.raidOf(0, 3), 10);
        RaidMat z = Talk.match("raid 1 out;raid 1 out;raid 1 touch 2,3;");
        due("a BACK for each that can", z.raidOf(2, 8), 0);
        RaidMat w = Talk.match("raid 1 touch 1,2,3;raid 4 touch 1,2,3;raid 4 touch 4,5,6;");
        due("three BACK, in the order they went", w.raidOf(2, 8), 3);
        due("three BACK for TEAM 1", w.raidOf(1, 8), 3);
    }

    // promises 21, 22, 23, 34, 45
    private static void leads() {
        RaidMat x = Talk.match("raid 1 bonus;raid 1 bonus;raid 1 bonus;raid 1 touch 2,3;raid 1 empty;raid 1 out;raid 1 touch 2,3;");
        int[] leads = {0, 1, 0, 1, -1, -1, 0, 2};
        for (int k = 0; k < leads.length; k++) {
            due("lead(" + k + ")", x.lead(k), leads[k]);
        }
        due("lead(8)", x.lead(8), -1000);
        due("lead(-1)", x.lead(-1), -1000);
        due("lead(MIN)", x.lead(MIN), -1000);
        due("lead without a TEXT", new RaidMat().lead(0), -1000);
        due("changes(), one by a draw", x.changes(), 2);
        due("draws()", x.draws(), 2);
        due("draws() at first", Talk.match("").draws(), 0);
        due("behind(0)", x.behind(0), 1);
        due("behind(1)", x.behind(1), 2);
        due("behind(2)", x.behind(2), -2);
        due("run(0)", x.run(0), 2);
        due("run(1)", x.run(1), 1);
        due("run(-1)", x.run(-1), -2);
        due("run with points of both", Talk.match("raid 1 bonus;raid 1 tackled 1 bonus;raid 1 bonus;").run(0), 1);

        // Six of b OUT, the seventh sent off: ALL OUT by a card, with the RAID ahead of it.
        RaidMat y = Talk.match("raid 1 touch 1,2,3,4,5,6;raid 7 empty;card b 7 red;raid 1 empty;");
        due("ALL OUT by a card", y.score(0), 8);
        due("parts(0, 4) by a card", y.parts(0, 4), 2);
        due("lead(1)", y.lead(1), 6);
        due("lead(2) with the card", y.lead(2), 8);
        due("lead(3)", y.lead(3), 8);
        due("raidOf(1, 4) without it", y.raidOf(1, 4), 0);
        due("gained without it", y.gained(0, 0, 3), 6);
        due("allOut is of RAIDS", y.allOut(1, 0), -1);
        due("those ON again", y.those(1, 0), 63);
        due("none OUT", y.outs(1, 0), -1);
    }

    // promises 24, 25, 50
    private static void ranks() {
        RaidMat x = Talk.match("raid 3 touch 1,2;raid 5 bonus;raid 3 empty;raid 5 tackled 2 bonus;raid 2 out;");
        due("best(1, 0)", x.best(1, 0), 2);
        due("best(1, 1): of like points the lesser number", x.best(1, 1), 14);
        due("best(1, 2)", x.best(1, 2), 0);
        due("best(0, 0)", x.best(0, 0), 2);
        due("best(0, 1)", x.best(0, 1), 14);
        due("best(0, 2)", x.best(0, 2), 1);
        due("best(5, 0)", x.best(5, 0), 1);
        due("best(5, 1)", x.best(5, 1), 10);
        due("best(5, 16), the last", x.best(5, 16), 17);
        due("best(5, 17)", x.best(5, 17), -1);
        due("best(5, MAX)", x.best(5, MAX), -1);
        due("best(7, 0)", x.best(7, 0), -2);
        due("best(-1, 0)", x.best(-1, 0), -2);
        due("best(0, -1)", x.best(0, -1), -2);
        due("rate(0, 2, 1, 10)", x.rate(0, 2, 1, 10), 10);
        due("rate cut", x.rate(0, 2, 1, 1), 1);
        due("rate cut", x.rate(0, 2, 6, 3), 1);
        due("rate cut below 0", x.rate(0, 2, 6, -3), -1);
        due("rate by 0", x.rate(0, 2, 1, 0), 0);
        due("rate beyond an int", x.rate(0, 2, 1, 1 << 30), -1);
        due("rate at the least int", x.rate(0, 2, 1, -(1 << 30)), -(1 << 30));
        due("rate by MAX of 1", x.rate(0, 2, 6, MAX), MAX / 2);
        due("rate of one who made none", x.rate(0, 0, 1, 1), -1);
        due("rate(0, 2, 7, 1)", x.rate(0, 2, 7, 1), -2);
        due("rate(0, 9, 0, 1)", x.rate(0, 9, 0, 1), -2);
        due("rate(0, 0, -1, 1): -2 ahead of NONE", x.rate(0, 0, -1, 1), -2);
        due("share(0, 2)", x.share(0, 2), 66);
        due("share(0, 1): by the tackle", x.share(0, 1), 33);
        due("share(0, 0)", x.share(0, 0), 0);
        due("share(1, 4)", x.share(1, 4), 100);
        due("share(1, 8)", x.share(1, 8), -2);
        due("share(2, 0)", x.share(2, 0), -2);
        due("share of a TEAM without such points", Talk.match("raid 1 out;").share(1, 0), -1);
    }

    // promises 26, 27
    private static void foresight() {
        RaidMat x = Talk.match("raid 1 touch 1,2,3,4;raid 5 empty;");
        due("would: all three", x.would(0, 1, 112, 0, 0), 5);
        due("would: all three, ON of its TEAM", x.would(0, 1, 112, 0, 2), 7);
        due("would: all three, ON of the other", x.would(0, 1, 112, 0, 3), 7);
        due("would: tackled, points", x.would(0, 3, 4, 0, 0), 0);
        due("would: tackled, points of the other", x.would(0, 3, 4, 0, 1), 2);
        due("would: tackled, ON", x.would(0, 3, 4, 0, 2), 6);
        due("would: tackled, ON of the other", x.would(0, 3, 4, 0, 3), 4);
        due("would: OUT touched", x.would(0, 1, 1, 0, 0), -6);
        due("would: no bonus now", x.would(0, 2, 0, 0, 0), -6);
        due("would: who waits", x.would(7, 0, 0, 0, 0), -6);
        due("would: what 4", x.would(0, 0, 0, 0, 4), -2);
        due("would: what -1", x.would(0, 0, 0, 0, -1), -2);
        due("would: -2 ahead of -6", x.would(7, 0, 0, 0, 4), -2);
        due("would: result 5", x.would(0, 5, 0, 0, 0), -2);
        due("would changes nothing", x.count(2) * 100 + x.score(0), 204);
        due("nor can it be undone", x.count(5), 1);
        due("most()", x.most(), 5);
        due("most() of seven", Talk.match("").most(), 10);
        due("most() without a TEXT", new RaidMat().most(), -2);
        due("most() when all is over", Talk.match("half;half;").most(), -1);
        due("most() behind 200 RAIDS", Talk.match(times("raid1out;", 200)).most(), -1);
        due("would behind 200 RAIDS", Talk.match(times("raid1out;", 200)).would(0, 0, 0, 0, 0), -6);

        String gone = "";
        for (int shirt = 1; shirt <= 7; shirt++) {
            gone += "card b " + shirt + " red;";
        }
        due("most() against nobody", Talk.match(gone).most(), 0);
        due("most() of nobody", Talk.match(gone + "raid 1 empty;").most(), -1);
        // One comes ON again when the others go OUT: no ALL OUT.
        RaidMat y = Talk.match("card b 7 yellow;" + times("raid 1 bonus;", 4));
        due("wait(1, 6)", y.wait(1, 6), 2);
        due("most() with one PUT OFF", y.most(), 9);
        RaidMat z = Talk.match("raid 1 bonus;card b 7 yellow;" + times("raid 1 bonus;", 5));
        due("most() when one comes ON", z.most(), 7);
    }

    // promise 28
    private static void needs() {
        RaidMat x = Talk.match("");
        due("needs(0) at first", x.needs(0), 1);
        due("needs(1) at first", x.needs(1), 1);
        due("needs(2)", x.needs(2), -2);
        x.raid(0, 2, 0, 0);
        due("needs(0): it leads", x.needs(0), 0);
        x.half();
        x.half();
        due("needs(0) when all is over", x.needs(0), 0);
        due("needs(1) when all is over", x.needs(1), -1);
        // 10 a RAID make a draw; then the third empty RAID of TEAM 0 MUST SCORE.
        due("needs(1) of 20", Talk.match(times("raid 1 touch 1,2,3,4,5,6,7 bonus;raid 1 empty;", 2)).needs(1), 2);
        // Both empty twice, the draw: TEAM 0 gets a point by the RAID of TEAM 1 that MUST SCORE.
        RaidMat y = Talk.match(times("raid 1 empty;", 4) + "raid 1 bonus;");
        due("needs(0): it leads", y.needs(0), 0);
        RaidMat z = Talk.match("raid 1 empty;raid 1 bonus;raid 1 bonus;raid 1 empty;raid 1 empty;raid 1 empty;raid 1 empty;");
        due("a draw", z.lead(7), 0);
        due("its turn next to MUST SCORE", z.turn() * 10 + z.empties(1), 12);
        due("needs(0): no RAID of its own", z.needs(0), 0);
        due("needs changes nothing", z.count(2), 7);

        String gone = "";
        for (int shirt = 1; shirt <= 7; shirt++) {
            gone += "card b " + shirt + " red;";
        }
        due("needs(1) of nobody", Talk.match(gone).needs(1), -1);
        due("needs(0) against nobody", Talk.match(gone).needs(0), -1);
        due("needs(0) behind 200 RAIDS", Talk.match(times("raid1out;", 200)).needs(0), 1);
        // 9 more a round; TEAM 1 makes 30 by three RAIDS and the one between them that MUST SCORE.
        RaidMat w = Talk.match("");
        for (int round = 0; round < 56; round++) {
            w.raid(0, 1, 127, 1);
            w.raid(0, 2, 0, 0);
            if (round == 54) {
                due("needs(1) of 495", w.needs(1), 50);
            }
        }
        due("lead(112)", w.lead(112), 504);
        due("needs(1) of 504", w.needs(1), -1);
    }

    // promise 29, 30, 31, 56
    private static void meetings() {
        RaidMat x = Talk.match("raid 1 touch 2,3;raid 4 tackled 1;raid 1 touch 5;raid 6 out;raid 1 tackled 7;");
        due("met(0, 0, 1, 0)", x.met(0, 0, 1, 0), 1);
        due("met(0, 0, 4, 0)", x.met(0, 0, 4, 0), 1);
        due("met(0, 0, 6, 0)", x.met(0, 0, 6, 0), 0);
        due("met(0, 0, 6, 1)", x.met(0, 0, 6, 1), 1);
        due("met(1, 3, 0, 1)", x.met(1, 3, 0, 1), 1);
        due("met(1, 3, 0, 0)", x.met(1, 3, 0, 0), 0);
        due("met(1, 0, 0, 0)", x.met(1, 0, 0, 0), 0);
        due("met(0, 0, 8, 0)", x.met(0, 0, 8, 0), -2);
        due("met(1, 0, 8, 0)", x.met(1, 0, 8, 0), 0);
        due("met(1, 8, 0, 0)", x.met(1, 8, 0, 0), -2);
        due("met(0, 0, 0, 2)", x.met(0, 0, 0, 2), -2);
        due("met(0, 0, 0, -1)", x.met(0, 0, 0, -1), -2);
        due("met(2, 0, 0, 0)", x.met(2, 0, 0, 0), -2);
        due("met(MIN, 0, 0, 0)", x.met(MIN, 0, 0, 0), -2);
        int[] lasted = {5, 1, 1, 2, 3, 4, 5, 0};
        for (int i = 0; i < 8; i++) {
            due("lasted(1, " + i + ")", x.lasted(1, i), lasted[i]);
        }
        due("lasted(1, 8)", x.lasted(1, 8), -2);
        due("lasted(2, 0)", x.lasted(2, 0), -2);
        int[] stood = {7, 5, 4, 3, 2, -1};
        for (int k = 0; k < 6; k++) {
            due("stood(1, " + k + ")", x.stood(1, k), stood[k]);
        }
        due("stood(1, -1)", x.stood(1, -1), -2);
        due("stood(2, 0)", x.stood(2, 0), -2);
        due("stood(2, 9): -2 ahead of NONE", x.stood(2, 9), -2);
        due("lives(0)", x.lives(0), 5);
        due("lives(1)", x.lives(1), 1);
        due("lives(2)", x.lives(2), -2);
    }

    // promises 32, 33, 35, 46, 47, 49, 52, 53
    private static void rows() {
        RaidMat x = Talk.match("raid 1 bonus;raid 1 empty;raid 2 bonus;raid 1 empty;raid 1 touch 2,3 bonus;raid 1 empty;"
            + "raid 1 empty;raid 4 tackled 3 bonus;raid 1 touch 5;");
        due("longest(0)", x.longest(0), 3);
        due("longest(1)", x.longest(1), 1);
        due("longest(2)", x.longest(2), -2);
        due("great(0)", x.great(0), 1);
        due("great(1)", x.great(1), 0);
        due("great(-1)", x.great(-1), -2);
        due("great: ALL OUT aside", Talk.match("raid 1 touch 1,2,3,4,5;raid 6 empty;raid 1 touch 6,7;").great(0), 1);
        due("first(0, 0, 0)", x.first(0, 0, 0), 0);
        due("first(0, 1, 0)", x.first(0, 1, 0), 2);
        due("first(1, 3, 0) by the bonus of one tackled", x.first(1, 3, 0), 7);
        due("first(0, 2, 1)", x.first(0, 2, 1), 7);
        due("first(0, 2, 0)", x.first(0, 2, 0), -1);
        due("first(1, 0, 0)", x.first(1, 0, 0), -1);
        due("first(0, 0, 2)", x.first(0, 0, 2), -2);
        due("first(0, 0, -1)", x.first(0, 0, -1), -2);
        due("first(0, 9, 0)", x.first(0, 9, 0), -2);
        due("pressed(1, 0)", x.pressed(1, 0), 1);
        due("pressed(1, 1)", x.pressed(1, 1), 0);
        due("pressed(0, 0)", x.pressed(0, 0), 0);
        due("pressed(0, 2)", x.pressed(0, 2), -2);
        due("pressed(0, -1)", x.pressed(0, -1), -2);
        due("pressed(2, 0)", x.pressed(2, 0), -2);
        RaidMat y = Talk.match(times("raid 1 empty;", 4) + "raid 1 bonus;");
        due("pressed(0, 1)", y.pressed(0, 1), 1);
        due("gained(0, 0, 9)", x.gained(0, 0, 9), 8);
        due("gained(0, 1, 4)", x.gained(0, 1, 4), 1);
        due("gained(0, 5, 6): by the other's RAID", x.gained(0, 5, 6), 1);
        due("gained(1, 7, 8)", x.gained(1, 7, 8), 1);
        due("gained(0, 4, 4)", x.gained(0, 4, 4), 0);
        due("gained(0, 9, 9)", x.gained(0, 9, 9), 0);
        due("gained(0, 4, 3)", x.gained(0, 4, 3), -2);
        due("gained(0, 0, 10)", x.gained(0, 0, 10), -2);
        due("gained(0, -1, 3)", x.gained(0, -1, 3), -2);
        due("gained(0, 10, 10)", x.gained(0, 10, 10), -2);
        due("gained(2, 0, 0)", x.gained(2, 0, 0), -2);
        due("streak(0, 0)", x.streak(0, 0), 2);
        due("streak(0, 1)", x.streak(0, 1), 1);
        due("streak(1, 3)", x.streak(1, 3), 1);
        due("streak(1, 0)", x.streak(1, 0), 0);
        due("streak(1, 8)", x.streak(1, 8), -2);
        due("last(0, 0)", x.last(0, 0), 8);
        due("last(0, 1)", x.last(0, 1), 2);
        due("last(0, 2)", x.last(0, 2), -1);
        due("last(0, 9)", x.last(0, 9), -2);
        String all = "raid 1 touch 1,2,3,4,5,6,7;raid 1 empty;";
        RaidMat z = Talk.match(all + all);
        due("allOut(1, 0)", z.allOut(1, 0), 0);
        due("allOut(1, 1)", z.allOut(1, 1), 2);
        due("allOut(1, 2)", z.allOut(1, 2), -1);
        due("allOut(0, 0)", z.allOut(0, 0), -1);
        due("allOut(1, -1)", z.allOut(1, -1), -2);
        due("allOut(2, 0)", z.allOut(2, 0), -2);
    }

    // promise 36
    private static void raids() {
        RaidMat x = Talk.match("");
        due("raider 9", x.raid(9, 0, 0, 0), -2);
        due("raider -1", x.raid(-1, 0, 0, 0), -2);
        due("raider who waits", x.raid(7, 0, 0, 0), -6);
        due("result -1", x.raid(0, -1, 0, 0), -2);
        due("result 5", x.raid(0, 5, 0, 0), -2);
        due("empty with a set", x.raid(0, 0, 1, 0), -2);
        due("empty with a bonus", x.raid(0, 0, 0, 1), -2);
        due("touch of none", x.raid(0, 1, 0, 0), -2);
        due("touch of no PLAYER", x.raid(0, 1, 256, 0), -2);
        due("touch of a PLAYER and none", x.raid(0, 1, 257, 0), -2);
        due("touch below 0", x.raid(0, 1, -1, 0), -2);
        due("touch of MIN", x.raid(0, 1, MIN, 0), -2);
        due("touch of one who waits", x.raid(0, 1, 128, 0), -6);
        due("touch of all eight", x.raid(0, 1, 255, 0), -6);
        due("touch with 2", x.raid(0, 1, 1, 2), -2);
        due("touch with -1", x.raid(0, 1, 1, -1), -2);
        due("bonus with a set", x.raid(0, 2, 1, 0), -2);
        due("bonus with a bonus", x.raid(0, 2, 0, 1), -2);
        due("tackled by none", x.raid(0, 3, 8, 0), -2);
        due("tackled by -1", x.raid(0, 3, -1, 0), -2);
        due("tackled by one who waits", x.raid(0, 3, 7, 0), -6);
        due("out with a set", x.raid(0, 4, 1, 0), -2);
        due("out with a bonus", x.raid(0, 4, 0, 1), -2);
        due("-2 ahead of -6", x.raid(7, 0, 0, 1), -2);
        due("none of these is done", x.count(2) * 10 + x.count(5), 1);
        due("touch", x.raid(0, 1, 70, 1), 4);
        due("they go by numbers", x.outs(1, 0) * 100 + x.outs(1, 1) * 10 + x.outs(1, 2), 126);
        due("raider who is OUT", x.raid(1, 0, 0, 0), -6);
        due("a PLAYER of the other TEAM alone", x.raid(8, 0, 0, 0), -2);
        due("bonus", x.raid(0, 2, 0, 0), 1);
        due("bonus of four", x.raid(0, 2, 0, 0), -6);
        due("touch with a bonus of four", x.raid(0, 1, 1, 1), -6);
        due("tackled with a bonus of four", x.raid(0, 3, 0, 1), -6);
        due("touch of one who is OUT", x.raid(0, 1, 3, 0), -6);
        due("tackled by one who is OUT", x.raid(0, 3, 1, 0), -6);
        due("tackled", x.raid(0, 3, 0, 0), 0);
        due("a BACK", x.is(1, 1), 0);
        x.half();
        x.half();
        due("when all is over", x.raid(0, 0, 0, 0), -6);
        due("-2 when all is over", x.raid(0, 0, 1, 0), -2);
        RaidMat y = Talk.match(times("raid1out;", 199));
        due("the 200th", y.raid(0, 4, 0, 0), 0);
        due("the 201st", y.raid(0, 4, 0, 0), -6);
        due("turn() behind 200", y.turn(), 0);
        due("bonus() behind 200", y.bonus(), 1);
    }

    // term II
    private static void raidRules() {
        RaidMat x = Talk.match("raid 1 touch 1,2,3,4,5,6;");
        // The last one of b is tackled by a: OUT, and all of b comes ON; a has 1 and 2 points.
        due("tackled, the last one", x.raid(6, 3, 0, 0), 0);
        due("raidOf(1, 4)", x.raidOf(1, 4), 3);
        due("parts(0, 4)", x.parts(0, 4), 2);
        due("all ON", x.those(1, 0), 127);
        due("allOut(1, 0)", x.allOut(1, 0), 1);

        RaidMat y = Talk.match("raid 1 touch 1,2,3,4,5,6;raid 7 tackled 1 bonus;");
        due("with a bonus for its TEAM", y.score(1), 1);

        // The last of b raids and touches: a BACK saves b from ALL OUT.
        RaidMat z = Talk.match("raid 1 touch 1,2,3,4,5,6;raid 7 touch 4,5;");
        due("two BACK in the order they went", z.those(1, 0), 64 + 1 + 2);
        due("OUT of b", z.outs(1, 0), 2);

        // A tackled RAIDER goes OUT first, then the other TEAM has its BACK.
        RaidMat w = Talk.match("raid 1 touch 4,2;raid 1 tackled 3;raid 2 out;");
        due("the first who went comes BACK", w.is(1, 3), 0);
        due("outs(1, 0)", w.outs(1, 0), 1);
        due("outs(1, 1)", w.outs(1, 1), 0);

        RaidMat v = Talk.match("raid 1 empty;raid 1 empty;raid 1 empty;raid 1 empty;");
        due("MUST SCORE both", v.empties(0) * 10 + v.empties(1), 22);
        due("would: empty", v.would(0, 0, 0, 0, 1), 1);
        v.half();
        due("the half ends it", v.empties(0) * 10 + v.empties(1), 0);
        due("turn()", v.turn(), 1);
        due("raid", v.raid(0, 0, 0, 0), 0);
        due("raidOf(4, 7)", v.raidOf(4, 7), 0);
        due("raidOf(4, 0)", v.raidOf(4, 0), 1);
        due("empties(1)", v.empties(1), 1);

        RaidMat u = Talk.match(times("raid 1 empty;", 4) + "raid 1 empty;raid 1 out;raid 2 empty;raid 2 empty;");
        due("MUST SCORE ends with it", u.empties(0) * 10 + u.empties(1), 11);
        due("pressed", u.pressed(0, 0) * 10 + u.pressed(1, 0), 11);
        due("score", u.score(0) * 10 + u.score(1), 11);
        due("parts(1, 5)", u.parts(1, 5), 1);
        due("parts(0, 5)", u.parts(0, 5), 1);
        due("of(0, 0, 5)", u.of(0, 0, 5), 1);
        due("of(0, 0, 6): empty, too", u.of(0, 0, 6), 3);
    }

    // promise 37, term III
    private static void cards() {
        RaidMat x = Talk.match("");
        due("card(2, 0, 0)", x.card(2, 0, 0), -2);
        due("card(0, 9, 0)", x.card(0, 9, 0), -2);
        due("card(0, 0, 3)", x.card(0, 0, 3), -2);
        due("card(0, 0, -1)", x.card(0, 0, -1), -2);
        due("who waits", x.card(0, 7, 0), -6);
        due("-2 ahead of -6", x.card(0, 7, 3), -2);
        due("green", x.card(0, 0, 0), 0);
        due("a second green is a yellow", x.card(0, 0, 0), 3);
        due("of(0, 0, 7)", x.of(0, 0, 7), 2);
        due("wait(0, 0)", x.wait(0, 0), 6);
        due("green of one PUT OFF", x.card(0, 0, 0), -6);
        due("yellow of one PUT OFF", x.card(0, 0, 1), -6);
        for (int n = 5; n >= 1; n--) {
            x.raid(1, 2, 0, 0);
            due("wait(0, 0)", x.wait(0, 0), n);
            due("is(0, 0)", x.is(0, 0), 3);
        }
        x.raid(1, 2, 0, 0);
        due("ON again", x.is(0, 0), 0);
        due("third green", x.card(0, 0, 0), 0);
        due("fourth green", x.card(0, 0, 0), 3);
        due("red of one PUT OFF", x.card(0, 0, 2), 4);
        due("wait(0, 0) of one SENT OFF", x.wait(0, 0), 0);
        due("red of one SENT OFF", x.card(0, 0, 2), -6);
        for (int n = 0; n < 8; n++) {
            x.raid(1, 2, 0, 0);
        }
        due("SENT OFF for good", x.is(0, 0), 4);

        RaidMat y = Talk.match("raid 1 touch 3,1,2;");
        due("yellow of one who is OUT", y.card(1, 0, 1), 3);
        due("outs(1, 0)", y.outs(1, 0), 2);
        due("outs(1, 1)", y.outs(1, 1), 1);
        due("outs(1, 2)", y.outs(1, 2), -1);
        due("red of one who is OUT", y.card(1, 2, 2), 4);
        due("outs(1, 0)", y.outs(1, 0), 1);
        due("green of one who is OUT", y.card(1, 1, 0), 1);

        RaidMat z = Talk.match("raid 1 touch 1,2,3,4,5,6;");
        due("the last one ON: yellow", z.card(1, 6, 1), 3);
        due("ALL OUT: two points", z.score(0), 8);
        due("and its OUT ones are ON", z.those(1, 0), 63);
        due("lead(1)", z.lead(1), 8);

        RaidMat w = Talk.match(times("raid1out;review a won;", 40));
        due("a 41st other LINE", w.card(0, 0, 0), -6);
        due("change as a 41st", w.change(0, 0, 7), -6);
        due("half as a 41st", w.half(), -6);
        w.raid(0, 4, 0, 0);
        due("may() at 40", w.may(0), 0);
        due("review as a 41st", w.review(0, 0), -6);
        RaidMat v = Talk.match("half;half;");
        due("card when all is over", v.card(0, 0, 2), -6);
    }

    // promise 38
    private static void changes() {
        RaidMat x = Talk.match("raid 1 touch 2;");
        due("change(2, 0, 7)", x.change(2, 0, 7), -2);
        due("change(1, 0, 8)", x.change(1, 0, 8), -2);
        due("change(1, -1, 7)", x.change(1, -1, 7), -2);
        due("from one who is OUT", x.change(1, 1, 7), -6);
        due("from one who waits", x.change(0, 7, 8), -6);
        due("to one who is ON", x.change(0, 0, 1), -6);
        due("to itself", x.change(0, 0, 0), -6);
        due("change", x.change(0, 0, 7), 1);
        due("is(0, 0)", x.is(0, 0), 2);
        due("is(0, 7)", x.is(0, 7), 0);
        due("change", x.change(0, 7, 0), 2);
        due("change", x.change(0, 1, 8), 3);
        due("change of the other TEAM", x.change(1, 0, 7), 1);
        due("change", x.change(0, 2, 7), 4);
        due("change", x.change(0, 3, 1), 5);
        due("a sixth change", x.change(0, 4, 2), -6);
        due("count(3)", x.count(3), 6);
        RaidMat y = Talk.match("half;half;");
        due("change when all is over", y.change(0, 0, 7), -6);
        due("-2 when all is over", y.change(0, 0, 9), -2);
    }

    // promise 39
    private static void halves() {
        due("half() without a TEXT", new RaidMat().half(), -2);
        RaidMat x = Talk.match("raid 1 out;");
        due("half()", x.half(), 1);
        due("OUT stay", x.is(0, 0), 1);
        due("RAIDS stand", x.count(2), 1);
        due("turn()", x.turn(), 1);
        x.raid(0, 0, 0, 0);
        due("turn()", x.turn(), 0);
        due("half()", x.half(), 2);
        due("half()", x.half(), -6);
        due("count(4)", x.count(4), 2);
    }

    // promises 40, 41
    private static void reviews() {
        due("may() without a TEXT", new RaidMat().may(0), -2);
        RaidMat x = Talk.match("raid 1 empty;raid 1 touch 2,1 bonus;");
        due("may(0)", x.may(0), 1);
        due("may(1)", x.may(1), 1);
        due("may(2)", x.may(2), -2);
        due("review(2, 0)", x.review(2, 0), -2);
        due("review(0, 2)", x.review(0, 2), -2);
        due("review(0, -1)", x.review(0, -1), -2);
        due("won", x.review(0, 1), 1);
        due("all is as ahead of it", x.score(1) * 1000 + x.those(0, 0), 127);
        due("turn()", x.turn(), 1);
        due("parts(1, 0)", x.parts(1, 0), 0);
        due("of(1, 0, 0)", x.of(1, 0, 0), 0);
        due("of(0, 1, 5)", x.of(0, 1, 5), 0);
        due("raidOf(1, 0)", x.raidOf(1, 0), -1);
        due("lead(2)", x.lead(2), -1000);
        due("empties(0)", x.empties(0), 1);
        due("count(3)", x.count(3), 1);
        due("behind a review there is none", x.review(1, 1), -6);
        due("may(1)", x.may(1), 0);
        x.raid(0, 2, 0, 0);
        due("may(0): a won one costs none", x.may(0), 1);
        due("lost", x.review(0, 0), 2);
        due("all stays", x.score(1), 1);
        x.raid(0, 0, 0, 0);
        due("may(0) behind a lost one", x.may(0), 0);
        due("review(0, 1)", x.review(0, 1), -6);
        due("may(1)", x.may(1), 1);
        x.half();
        due("may(1) behind a half", x.may(1), 0);
        x.raid(0, 0, 0, 0);
        due("may(0) in another half", x.may(0), 1);
        x.card(0, 0, 0);
        due("may(0) behind a card", x.may(0), 0);
        x.undo();
        due("may(0) when it is undone", x.may(0), 1);
        x.half();
        due("may(0) when all is over", x.may(0), 0);
        RaidMat y = Talk.match(times("raid1out;", 200));
        due("review of the 200th", y.review(1, 1), 199);
        due("then another one", y.raid(0, 4, 0, 0), 0);
        due("count(2)", y.count(2), 200);

        // A RAID by which a TEAM was ALL OUT, with one PUT OFF who came ON.
        RaidMat z = Talk.match("card a 7 yellow;" + times("raid 1 bonus;", 4) + "raid 1 touch 1,2,3,4,5,6,7;");
        due("ALL OUT", z.allOut(1, 0), 4);
        due("review", z.review(1, 1), 4);
        due("wait(0, 6)", z.wait(0, 6), 2);
        due("allOut", z.allOut(1, 0), -1);
        due("parts(0, 4)", z.parts(0, 4), 0);
        due("score", z.score(0) * 10 + z.score(1), 22);
    }

    // promise 42
    private static void undone() {
        RaidMat x = new RaidMat();
        due("undo() of nothing", x.undo(), -1);
        Talk.text(x, TEAMS + "raid 1 bonus;");
        Talk.text(x, TEAMS + "raid 1 touch 1,2;");
        x.raid(2, 0, 0, 0);
        Talk.text(x, "nonsense");
        due("a FAULT is no act", x.count(5), 3);
        due("undo()", x.undo(), 2);
        due("count(2)", x.count(2), 1);
        due("score(0)", x.score(0), 2);
        due("undo() of text()", x.undo(), 1);
        due("score(0)", x.score(0), 1);
        due("undo() of the first text()", x.undo(), 0);
        due("score(0)", x.score(0), -2);
        due("count(0)", x.count(0), 0);
        due("undo()", x.undo(), -1);
        due("fault(0) of the latest text()", x.fault(0), 1);

        RaidMat y = Talk.match("");
        for (int n = 0; n < 12; n++) {
            y.raid(0, 2, 0, 0);
        }
        due("count(5)", y.count(5), 10);
        for (int n = 9; n >= 0; n--) {
            due("undo()", y.undo(), n);
        }
        due("undo()", y.undo(), -1);
        due("count(2)", y.count(2), 2);

        RaidMat z = Talk.match("raid 1 touch 3,2;");
        int before = z.those(1, 0) * 1000 + z.score(0) * 10 + z.outs(1, 0);
        z.card(1, 0, 2);
        z.undo();
        z.change(1, 0, 7);
        z.undo();
        z.half();
        z.undo();
        z.review(0, 1);
        due("won", z.count(2), 0);
        z.undo();
        due("a review undone", z.count(2), 1);
        due("all as ahead", z.those(1, 0) * 1000 + z.score(0) * 10 + z.outs(1, 0), before);
        due("count(3)", z.count(3), 0);
        due("may(0)", z.may(0), 1);
        due("refused ones are no acts", z.raid(1, 0, 0, 0) + z.count(5), -5);
        for (int n = 0; n < 11; n++) {
            Talk.text(z, TEAMS + times("raid 1 bonus;", n));
        }
        due("count(5) of texts", z.count(5), 10);
        for (int n = 9; n >= 0; n--) {
            due("undo() of texts", z.undo(), n);
            due("count(2) of texts", z.count(2), n);
        }
    }

    // promises 43, 44
    private static void told() {
        RaidMat x = new RaidMat();
        due("tell without a TEXT", x.tell(0), -2);
        due("octet(0)", x.octet(0), -1);
        Talk.text(x, "team a:1,2,3,4,5,6,7;team b:10,2,3,99,5,6,7;raid 1 touch 99,2 bonus;raid 3 tackled 1 bonus;card a 5 green;"
            + "raid 7 empty;raid 10 bonus;raid 6 out;");
        String all = "raid 1 touch 99,2 bonus;raid 3 tackled 1 bonus;raid 7 empty;raid 10 bonus;raid 6 out;";
        due("tell(0)", x.tell(0), 5);
        Talk.dueText("OUT", Talk.told(x), all);
        due("octet(-1)", x.octet(-1), -1);
        due("octet behind it", x.octet(all.length()), -1);
        due("octet(MAX)", x.octet(MAX), -1);
        due("tell(3)", x.tell(3), -2);
        due("tell(-1)", x.tell(-1), -2);
        Talk.dueText("OUT stays", Talk.told(x), all);
        due("tell(1)", x.tell(1), 3);
        Talk.dueText("OUT", Talk.told(x), "raid 1 touch 99,2 bonus;raid 7 empty;raid 6 out;");
        due("tell(2)", x.tell(2), 2);
        Talk.dueText("OUT", Talk.told(x), "raid 3 tackled 1 bonus;raid 10 bonus;");
        x.undo();
        due("tell without a TEXT", x.tell(0), -2);
        Talk.dueText("OUT stays when a TEXT is undone", Talk.told(x), "raid 3 tackled 1 bonus;raid 10 bonus;");
        RaidMat y = Talk.match("");
        y.raid(0, 1, 70, 0);
        due("tell(0)", y.tell(0), 1);
        Talk.dueText("OUT", Talk.told(y), "raid 1 touch 2,3,7;");
        due("tell(2)", y.tell(2), 0);
        due("OUT is empty", y.count(7), 0);
        RaidMat z = Talk.match(times("raid1out;", 200));
        due("tell of 200: as far as they are whole", z.tell(0), 181);
        due("count(7)", z.count(7), 181 * 11);
        due("tell of 100", z.tell(2), 100);
        RaidMat w = new RaidMat();
        Talk.text(w, "team a:11,12,13,14,15,16,17;team b:11,12,13,14,15,16,17;");
        for (int n = 0; n < 126; n++) {
            w.raid(0, 2, 0, 0);
        }
        due("tell of 126 (14 bytes each, 1764)", w.tell(0), 126);
        for (int n = 0; n < 16; n++) {
            w.raid(0, 2, 0, 0);
        }
        due("142 of 14 bytes are 1988", w.tell(0), 142);
        w.raid(0, 4, 0, 0);
        due("one of 12 bytes makes 2000", w.tell(0), 143);
        due("count(7)", w.count(7), 2000);
        w.undo();
        w.raid(0, 2, 0, 0);
        w.raid(1, 4, 0, 0);
        due("none behind one that is not whole", w.tell(0), 142);
        due("count(7)", w.count(7), 1988);
    }

    // promise 51, and all of them without a TEXT
    private static void more() {
        RaidMat x = new RaidMat();
        due("find without a TEXT", Talk.find(x, "a"), -2);
        due("the TAPE is empty then", x.count(6), 0);
        Talk.text(x, "team reds:1,2,3,4,5,6,7;team blue:1,2,3,4,5,6,7;");
        due("find reds", Talk.find(x, "reds"), 0);
        due("count(6)", x.count(6), 0);
        due("find blue", Talk.find(x, "blue"), 1);
        due("find red", Talk.find(x, "red"), -1);
        due("find redss", Talk.find(x, "redss"), -1);
        due("find raid", Talk.find(x, "raid"), -1);
        due("find nothing", x.find(), -2);
        due("find seven letters", Talk.find(x, "abcdefg"), -2);
        due("find a blank", Talk.find(x, "reds "), -2);
        due("find Reds", Talk.find(x, "Reds"), -2);
        due("find r1", Talk.find(x, "r1"), -2);
        due("count(6)", x.count(6), 0);
        Talk.text(x, "team abcdef:1,2,3,4,5,6,7;team z:1,2,3,4,5,6,7;");
        due("find six letters", Talk.find(x, "abcdef"), 0);
        due("find one letter", Talk.find(x, "z"), 1);

        RaidMat y = new RaidMat();
        int[] answers = {y.letter(0, 0), y.shirt(0, 0), y.who(0, 1), y.is(0, 0), y.those(0, 0), y.outs(0, 0), y.wait(0, 0), y.score(0),
            y.turn(), y.empties(0), y.bonus(), y.of(0, 0, 0), y.parts(0, 0), y.raidOf(0, 0), y.changes(), y.run(0), y.best(0, 0),
            y.rate(0, 0, 0, 1), y.would(0, 0, 0, 0, 0), y.most(), y.needs(0), y.met(0, 0, 0, 0), y.lasted(0, 0), y.stood(0, 0),
            y.longest(0), y.great(0), y.behind(0), y.first(0, 0, 0), y.raid(0, 0, 0, 0), y.card(0, 0, 0), y.change(0, 0, 1), y.half(),
            y.review(0, 0), y.may(0), y.tell(0), y.draws(), y.pressed(0, 0), y.gained(0, 0, 0), y.shirts(0, 0, 0), y.allOut(0, 0),
            y.share(0, 0), y.find(), y.streak(0, 0), y.last(0, 0), y.some(0, 0), y.sum(0, 0), y.lives(0)};
        due("all, without a TEXT", Arrays.stream(answers).filter(a -> a == -2).count(), answers.length);
        due("NONE", RaidMat.NONE, -1);
    }
}
