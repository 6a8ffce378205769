import java.util.Arrays;

/** Term I (the TEXT, its TOKENS, its FAULTS) and promises 2 to 5: a test for each sentence that names a boundary case. */
public final class TextEdgesTest {
    private static final String TEAMS = Talk.TEAMS;
    private static final String SEVEN = "1,2,3,4,5,6,7";
    private static final String[] WORDS = {"team", "raid", "card", "green", "yellow", "red", "change", "for", "half", "review",
        "won", "lost", "empty", "touch", "bonus", "tackled", "out"};
    // What stands when a faulty TEXT comes: RAIDS, cards, one PUT OFF, OUT ones, something TOLD, acts.
    private static final Story BASE = Story.of("raid 1 touch 3,2 bonus;raid 4 out;card a 2 yellow;").then("raid(0, 0, 0, 0)", "tell(0)");

    public static void main(String[] args) {
        feedEdges();
        endEdges();
        textEdges();
        faultEdges();
        grammarEdges();
        tokenEdges();
        nameEdges();
        shirtEdges();
        sizeEdges();
        unknownEdges();
        raidEdges();
        cardEdges();
        changeEdges();
        halfEdges();
        reviewEdges();
        limitEdges();
        orderOfFaults();
        Talk.finish("TextEdgesTest");
    }

    /** A TEXT with a FAULT at the sign ^ (which is not part of it): the answers, and that all else stays. */
    private static void wrong(String sentence, String marked, int number) {
        int at = marked.indexOf('^');
        String text = marked.substring(0, at) + marked.substring(at + 1);
        Story told = BASE.tape(text);
        Edge.all(sentence, told, "text() = -4", "fault(0) = " + number, "fault(1) = " + at, "count(6) = 0");
        Story behind = told.tried("text()");
        Portrait.sameButFault("text: all else stays: " + sentence, behind, BASE);
        Portrait.sameButFault("text: all else stays: " + sentence, behind.then("undo()"), BASE.then("undo()"));
        Portrait.sameButFault("text: all else stays: " + sentence, behind.then("undo()", "undo()"), BASE.then("undo()", "undo()"));
    }

    /** The same behind the TEAMS a (9 PLAYERS) and b (8). */
    private static void wrongLine(String sentence, String marked, int number) {
        wrong(sentence, TEAMS + marked, number);
    }

    /** Each of the words told in the document, but for these, can't stand there. */
    private static void notThere(String sentence, String ahead, String behind, String... these) {
        for (String word : WORDS) {
            if (!Arrays.asList(these).contains(word)) {
                wrongLine(sentence, ahead + "^" + word + behind, 1);
            }
        }
    }

    private static void right(String sentence, String text, int lines, String... asked) {
        Story told = BASE.tape(text);
        Edge.all(sentence, told, "text() = " + lines, "fault(0) = 0", "fault(1) = -1", "count(6) = 0");
        Edge.all(sentence, told.then("text()"), asked);
        Portrait.sameButFault("undo: text() too: " + sentence, told.then("text()", "undo()"), BASE);
    }

    private static void rightLine(String sentence, String text, String... asked) {
        right(sentence, TEAMS + text, (int) text.chars().filter(c -> c == ';').count(), asked);
    }

    // promise 2
    private static void feedEdges() {
        Story full = Story.blank();
        for (int n = 1; n <= 99; n++) {
            full = full.then("feed(" + n + ", 0, -1, MIN, MAX)");
        }
        Edge.due("feed: how many it has", full, "count(6)", 1980);
        Edge.due("feed: not more than 2000", full, "feed(0, 0, 0, 0, 0)", 2000);
        full = full.then("feed(0, 0, 0, 0, 0)");
        Edge.refused("feed: NONE, if it would have more than 2000", full, "feed(1, 2, 3, 4, 5)", -1);
        Edge.refused("feed: NONE, if it would have 2001", full.then("end(1981)"), "feed(1, 2, 3, 4, 5)", -1);
        Edge.due("feed: 2000 again", full.then("end(1980)"), "feed(1, 2, 3, 4, 5)", 2000);
        Edge.due("feed: twenty bytes", Story.blank(), "feed(0, 0, 0, 0, 0)", 20);
        // Blanks to the end: had one byte of the refused feed come, it would be a FAULT.
        Story blanks = Story.blank().tape(TEAMS + " ".repeat(1981 - TEAMS.length())).tried("feed(1, 1, 1, 1, 1)");
        Edge.all("feed: none come", blanks, "count(6) = 1981", "text() = 0");
        // 0xe9 stands highest, or lowest, in its number.
        wrong("feed: four of each number, the highest first", "^\u00e9eam", 1);
        wrong("feed: four of each number, the lowest last", "team a^\u00e9", 1);
        wrong("feed: a byte of 255", "team a^\u00ff", 1);
        wrong("feed: a byte of 128", "team a:1^\u0080", 1);
        wrong("feed: a byte of 0", "team a:1^\u0000", 1);
        // 1684366881 is "def!".
        Story name = Story.blank().text("team abcdef:" + SEVEN + ";team abc:" + SEVEN + ";").tape("abc");
        Edge.all("feed: behind the TAPE", name.then("feed(1684366881, 0, 0, 0, 0)", "end(6)"), "find() = 0");
        Edge.all("feed: behind the TAPE, and not in its place", name, "find() = 1");
    }

    // promise 3
    private static void endEdges() {
        Story three = Story.blank().tape("abc");
        Edge.due("end: n", three, "end(3)", 3);
        Edge.due("end: n", three, "end(2)", 2);
        Edge.due("end: n", three, "end(0)", 0);
        Edge.refused("end: NONE, if it has not so many", three, "end(4)", -1);
        Edge.refused("end: NONE, if it has not so many", three, "end(MAX)", -1);
        Edge.refused("end: NONE, if n is below 0", three, "end(-1)", -1);
        Edge.refused("end: NONE, if n is below 0", three, "end(MIN)", -1);
        Edge.refused("end: NONE of an empty TAPE", Story.blank(), "end(1)", -1);
        Edge.due("end: 0 of an empty TAPE", Story.blank(), "end(0)", 0);
        Edge.refused("end: NONE, if it has not so many", Story.blank().tape(" ".repeat(2000)), "end(2001)", -1);
        Edge.due("end: 2000", Story.blank().tape(" ".repeat(2000)), "end(2000)", 2000);
        Edge.all("end: nothing happens", Story.blank().tape(TEAMS).tried("end(-1)", "end(2001)", "end(MAX)"), "text() = 0");
        Edge.all("end: its first n bytes alone", Story.blank().tape(TEAMS + "raid").then("end(" + TEAMS.length() + ")"), "text() = 0");
        Edge.all("end: the last byte cut", Story.blank().tape(TEAMS).then("end(" + (TEAMS.length() - 1) + ")"), "text() = -4",
            "fault(0) = 1", "fault(1) = " + (TEAMS.length() - 1));
        Edge.all("end: 0 empties it", Story.blank().tape(TEAMS).then("end(0)"), "text() = -4", "fault(1) = 0");
        Edge.all("end: what was cut is gone", Story.of("").tape("ba").then("end(1)", "feed(538976288, 0, 0, 0, 0)", "end(1)"), "find() = 1");
    }

    // promise 4
    private static void textEdges() {
        wrong("text: an empty TAPE", "^", 1);
        wrong("text: blanks alone", "  \n ^", 1);
        right("text: no LINES", TEAMS, 0, "count(2) = 0", "count(3) = 0", "score(0) = 0", "count(5) = 3");
        right("text: in place of another", "team x:11,12,13,14,15,16,17;team y:21,22,23,24,25,26,27;half;", 1, "count(0) = 7",
            "count(1) = 7", "count(2) = 0", "count(3) = 1", "count(4) = 1", "letter(0, 0) = 24", "who(0, 1) = -1", "shirt(1, 0) = 21",
            "is(0, 1) = 0", "of(0, 0, 1) = 0", "parts(0, 0) = 0", "raidOf(0, 0) = -1", "lead(1) = -1000", "lasted(0, 0) = 0");
        right("text: LINES, of a RAID that a won review took away, too", TEAMS + "raid 1 empty;review a won;", 2, "count(2) = 0", "count(3) = 1");
        right("text: of 2000 bytes", TEAMS + " ".repeat(2000 - TEAMS.length() - 5) + "half;", 1, "count(4) = 1");
        Story stays = BASE.tape("team a:1;");
        Edge.all("text: -4, and OUT stays", stays.tried("text()"), "count(7) = 47", "octet(0) = 114", "octet(47) = -1");
        Edge.due("text: -4 is no act", stays.tried("text()"), "count(5)", 2);
    }

    // promise 5
    private static void faultEdges() {
        Edge.all("fault: ahead of any", Story.blank(), "fault(0) = 0", "fault(1) = -1", "fault(2) = -1", "fault(-1) = -1", "fault(MIN) = -1",
            "fault(MAX) = -1");
        Edge.all("fault: without", Story.of(""), "fault(0) = 0", "fault(1) = -1", "fault(2) = -1", "fault(-1) = -1");
        Story faulty = Story.of("").text("team a:0");
        Edge.all("fault: with", faulty, "fault(0) = 2", "fault(1) = 7", "fault(2) = -1", "fault(-1) = -1", "fault(MIN) = -1", "fault(MAX) = -1");
        Edge.all("fault: of the latest text()", faulty.text(TEAMS), "fault(0) = 0", "fault(1) = -1");
        Edge.all("fault: of the latest text()", faulty.text("x"), "fault(0) = 1", "fault(1) = 0");
        Edge.all("fault: whatever came since", faulty.then("raid(0, 0, 0, 0)", "undo()", "undo()", "end(0)").tried("find()"), "fault(0) = 2", "fault(1) = 7");
        Edge.all("fault: of the latest text(), undone or not", Story.of("").text("x").text(TEAMS).then("undo()"), "fault(0) = 0", "fault(1) = -1");
    }

    // TEXT: TEAM TEAM {LINE ;}.
    private static void grammarEdges() {
        String a = "team a:" + SEVEN + ";";
        String b = "team b:" + SEVEN + ";";
        wrong("TEXT: TEAM TEAM: one alone", a + "^", 1);
        wrong("TEXT: TEAM TEAM: a LINE ahead of the second", a + "^half;", 1);
        wrong("TEXT: TEAM TEAM: a LINE ahead of the first", "^half;" + a + b, 1);
        wrong("TEXT: TEAM TEAM: a third", a + b + "^team c:" + SEVEN + ";", 1);
        wrong("TEXT: a ; too many", a + "^;" + b, 1);
        wrong("TEXT: a ; too many", a + b + "half;^;", 1);
        wrong("LINE ;: without it", a + b + "half^", 1);
        wrong("LINE ;: without it", a + b + "half ^half;", 1);
        wrong("LINE ;: a , in its place", a + b + "half^,", 1);
        wrong("TEAM: team", "^tea a:" + SEVEN + ";", 1);
        wrong("TEAM: team alone", "team^", 1);
        wrong("TEAM: no name", "team ^:" + SEVEN + ";", 1);
        wrong("TEAM: a number for a name", "team ^1:" + SEVEN + ";", 1);
        wrong("TEAM: no :", "team a ^" + SEVEN + ";", 1);
        wrong("TEAM: no :, the end", "team a^", 1);
        wrong("TEAM: two :", "team a:^:" + SEVEN + ";", 1);
        wrong("TEAM: no SHIRT", "team a:^;", 1);
        wrong("TEAM: no SHIRT, the end", "team a:^", 1);
        wrong("TEAM: a name for a SHIRT", "team a:^b;", 1);
        wrong("TEAM: two ,", "team a:1,^,2;", 1);
        wrong("TEAM: a , at first", "team a:^,1;", 1);
        wrong("TEAM: a , at last", "team a:" + SEVEN + ",^;", 1);
        wrong("TEAM: no ,", "team a:1 ^2;", 1);
        wrong("TEAM: no ;", "team a:" + SEVEN + "^", 1);
        wrong("TEAM: no ;", "team a:" + SEVEN + " ^team b:" + SEVEN + ";", 1);
        wrong("TEAM: no ; but a word", "team a:" + SEVEN + "^x;", 1);
        notThere("LINE: no word of it", "", " 1 empty;", "raid", "card", "change", "half", "review");
        wrongLine("LINE: a name", "^a;", 1);
        wrongLine("LINE: a number", "^1;", 1);
        wrongLine("LINE: a RESULT", "^empty;", 1);
        right("TEXT: two TEAMS alone", a + b, 0);
        right("TEXT: LINES up to the last ;", a + b + "raid 1 empty;half;", 2);
    }

    // TOKENS, blanks (32, 10) aside, the longest: words (a .. z), numbers (digits), else single bytes.
    private static void tokenEdges() {
        right("TOKENS: blanks (32, 10) aside", " \n\n team\na\n:\n1 , 2\n,3,4,5,6,7 \n;team b:" + SEVEN + " ;\nraid\n1  touch 7 ,\n1 bonus\n;\n", 1,
            "outs(1, 0) = 6", "outs(1, 1) = 0", "score(0) = 3");
        right("TOKENS: no blank between a word and a number", "team a:" + SEVEN + ";team b:" + SEVEN + ";raid1touch1,2bonus;card b1red;raid3empty;", 3,
            "score(0) = 3", "is(1, 0) = 4", "count(2) = 2");
        right("TOKENS: no blanks at all but between words", TEAMS + "raid1tackled1bonus;change b2for8;card a2green;", 3);
        wrong("TOKENS: the longest: one word of two", "^teama:" + SEVEN + ";", 1);
        wrongLine("TOKENS: the longest: one word of two", "^halfhalf;", 1);
        wrongLine("TOKENS: a word cut by a blank", "^ra id 1 empty;", 1);
        wrongLine("TOKENS: a word cut by a blank, at the rest of it", "half;^hal f;", 1);
        wrongLine("TOKENS: a number cut by a blank", "raid 1 touch 1 ^2;", 1);
        wrong("TOKENS: the longest: one number of two", "team a:^1234,5,6,7;", 2);
        for (char sign : new char[] {9, 11, 13, 0, 31, 33, 127, 160, 255, 'A', 'Z', '`', '{', '/', '.', '-', '_', '"'}) {
            wrong("TOKENS: " + (int) sign + " is none, at first", "^" + sign + TEAMS, 1);
            wrongLine("TOKENS: " + (int) sign + " is none, at last", "half;^" + sign, 1);
            wrong("TOKENS: " + (int) sign + " ends a word", "team ab^" + sign + "c:" + SEVEN + ";", 1);
            wrong("TOKENS: " + (int) sign + " ends a number", "team a:1^" + sign + ",2;", 1);
        }
        wrong("TOKENS: : is no digit", "team a:1^:2;", 1);
        wrong("TOKENS: a name of great letters", "team ^A:" + SEVEN + ";", 1);
        right("TOKENS: all digits, all letters", "team az:10,23,45,67,89,90,1;team zyxwvu:" + SEVEN + ";raid 90 empty;", 1, "shirt(0, 4) = 89");
    }

    // W: 1 to 6 letters, none of the words told here, names unlike.
    private static void nameEdges() {
        right("W: of 1 letter", "team z:" + SEVEN + ";team y:" + SEVEN + ";card z 1 red;", 1, "is(0, 0) = 4", "letter(0, 0) = 26", "letter(0, 1) = 0");
        right("W: of 6 letters", "team abcdef:" + SEVEN + ";team abcdeg:" + SEVEN + ";card abcdeg 1 red;", 1, "is(1, 0) = 4", "letter(1, 5) = 7");
        wrong("W: of 7 letters", "team ^abcdefg:" + SEVEN + ";", 1);
        wrong("W: of 7 letters, the second", "team a:" + SEVEN + ";team ^abcdefg:" + SEVEN + ";", 1);
        wrong("W: of 40 letters", "team ^" + "z".repeat(40) + ":" + SEVEN + ";", 1);
        for (String word : WORDS) {
            wrong("W: none of the words told here", "team ^" + word + ":" + SEVEN + ";", 1);
            wrong("W: none of the words told here, the second", "team a:" + SEVEN + ";team ^" + word + ":" + SEVEN + ";", 1);
            wrongLine("W: none of the words told here", "card ^" + word + " 1 red;", 1);
        }
        right("W: a bit of such a word", "team raids:" + SEVEN + ";team rai:" + SEVEN + ";card rai 1 red;", 1);
        right("W: a bit of such a word", "team tackle:" + SEVEN + ";team wo:" + SEVEN + ";card wo 1 red;", 1);
        wrong("names unlike", "team ab:" + SEVEN + ";team ^ab:" + SEVEN + ";", 3);
        right("names unlike: one begins as the other", "team a:" + SEVEN + ";team ab:" + SEVEN + ";card ab 1 red;card a 2 red;", 2, "is(1, 0) = 4", "is(0, 1) = 4");
        right("names unlike: the other way round", "team ab:" + SEVEN + ";team ba:" + SEVEN + ";card ba 1 red;", 1, "is(1, 0) = 4");
        right("names unlike: of the TEXT alone, not of the one ahead of it", "team b:" + SEVEN + ";team a:" + SEVEN + ";", 0, "letter(0, 0) = 2");
        for (String line : new String[] {"card ^abcdefg 1 red;", "change ^abcdefg 1 for 8;", "raid 1 empty;review ^abcdefg won;"}) {
            wrongLine("1: a word of more letters, too", line, 1);
        }
    }

    // SHIRT 1 .. 99, unlike ones in a TEAM.
    private static void shirtEdges() {
        right("SHIRT 1 .. 99", "team a:1,99,3,4,5,6,7;team b:99,1,3,4,5,6,7;raid 99 touch 99,1;", 1, "who(0, 99) = 1", "outs(1, 0) = 0");
        wrong("2: SHIRT 0", "team a:^0,2,3;", 2);
        wrong("2: SHIRT 00", "team a:^00,2,3;", 2);
        wrong("2: SHIRT 100", "team a:1,^100,3;", 2);
        wrong("2: SHIRT 0 as the last", "team a:1,2,3,4,5,6,^0;", 2);
        wrong("2: SHIRT 990", "team a:^990,2,3;", 2);
        wrong("2: SHIRT 991, 99 being there", "team a:99,^991,3;", 2);
        wrong("2: SHIRT 1000", "team a:^1000,2,3;", 2);
        wrong("2: SHIRT 0990", "team a:^0990,2,3;", 2);
        wrong("2: beyond an int", "team a:^4294967297;", 2);
        wrong("2: beyond a long", "team a:^18446744073709551617;", 2);
        wrong("2: of 200 digits", "team a:^" + "1".repeat(200) + ";", 2);
        right("SHIRT: 01 is 1", "team a:01,2,3,4,5,6,7;team b:" + SEVEN + ";raid 1 touch 007;", 1, "shirt(0, 0) = 1", "outs(1, 0) = 6");
        right("SHIRT: 1 behind many 0", "team a:" + "0".repeat(100) + "1,2,3,4,5,6,7;team b:" + SEVEN + ";", 0, "shirt(0, 0) = 1");
        wrongLine("2: at the raider", "raid ^0 empty;", 2);
        wrongLine("2: at the raider", "raid ^100 empty;", 2);
        wrongLine("2: at the touched one", "raid 1 touch 1,^0;", 2);
        wrongLine("2: at the touched one", "raid 1 touch ^100;", 2);
        wrongLine("2: at the one who tackles", "raid 1 tackled ^0;", 2);
        wrongLine("2: at the one who tackles", "raid 1 tackled ^100;", 2);
        wrongLine("2: at card's", "card a ^0 red;", 2);
        wrongLine("2: at card's", "card a ^100 red;", 2);
        wrongLine("2: at change's first", "change a ^0 for 8;", 2);
        wrongLine("2: at change's first", "change a ^100 for 8;", 2);
        wrongLine("2: at change's second", "change a 1 for ^0;", 2);
        wrongLine("2: at change's second", "change a 1 for ^100;", 2);
        wrong("3: a SHIRT again", "team a:1,2,3,4,5,6,^6;", 3);
        wrong("3: a SHIRT again, the first", "team a:1,^1;", 3);
        wrong("3: a SHIRT again, of the second TEAM", "team a:" + SEVEN + ";team b:9,8,^9;", 3);
        wrong("3: a SHIRT again, with a 0", "team a:9,8,^09;", 3);
        right("unlike ones in a TEAM: not in both", "team a:" + SEVEN + ";team b:7,6,5,4,3,2,1;", 0, "shirt(1, 0) = 7");
    }

    // TEAMS of 7 to 10 PLAYERS; 6: an 11th SHIRT (at it), fewer than seven (at the ;).
    private static void sizeEdges() {
        right("7 PLAYERS", "team a:" + SEVEN + ";team b:" + SEVEN + ";", 0, "count(0) = 7", "count(1) = 7", "those(0, 0) = 127", "those(0, 2) = 0",
            "those(1, 0) = 127", "those(1, 2) = 0", "shirt(0, 7) = -2", "shirt(1, 7) = -2");
        right("10 PLAYERS", "team a:" + SEVEN + ",8,9,10;team b:11,12,13,14,15,16,17,18,19,20;", 0, "count(0) = 10", "count(1) = 10",
            "those(0, 0) = 127", "those(0, 2) = 896", "is(0, 6) = 0", "is(0, 7) = 2", "is(1, 9) = 2", "shirt(1, 9) = 20", "shirt(1, 10) = -2");
        wrong("6: fewer than seven (at the ;)", "team a:1,2,3,4,5,6 ^;", 6);
        wrong("6: one alone", "team a:1^;", 6);
        wrong("6: fewer than seven, the second TEAM", "team a:" + SEVEN + ";team b:1,2,3,4,5,6^;", 6);
        wrong("6: an 11th SHIRT (at it)", "team a:" + SEVEN + ",8,9,10, ^11;", 6);
        wrong("6: an 11th SHIRT, the second TEAM", "team a:" + SEVEN + ";team b:" + SEVEN + ",8,9,10,^11,12;", 6);
        wrong("1 ahead of 6: no SHIRT in the 11th place", "team a:" + SEVEN + ",8,9,10,^x;", 1);
        wrong("1: fewer than seven, and the end", "team a:1,2,3,4,5,6^", 1);
        wrong("2 ahead of 6: an 11th SHIRT out of its bounds", "team a:" + SEVEN + ",8,9,10,^100;", 2);
        wrong("2 ahead of 6: an 11th SHIRT out of its bounds", "team a:" + SEVEN + ",8,9,10,^0;", 2);
        wrong("3 ahead of 6: an 11th SHIRT again", "team a:" + SEVEN + ",8,9,10,^10;", 3);
    }

    // 4: a name, a SHIRT that is none of its TEAM.
    private static void unknownEdges() {
        wrongLine("4: a name, at card", "card ^c 1 red;", 4);
        wrongLine("4: a name, at change", "change ^aa 1 for 8;", 4);
        wrongLine("4: a name, at review", "raid 1 empty;review ^ba won;", 4);
        wrongLine("4: the raider, of TEAM 0", "raid ^10 empty;", 4);
        wrongLine("4: the raider: 9 is of TEAM 0 alone", "raid 1 empty;raid ^9 empty;", 4);
        wrongLine("4: the touched one: 9 is of TEAM 0 alone", "raid 1 touch 1,^9;", 4);
        rightLine("4: of TEAM 0 it is one", "change a 1 for 9;raid 9 empty;raid 1 touch 9;", "is(0, 8) = 1");
        wrongLine("4: the one who tackles", "raid 1 tackled ^9;", 4);
        wrongLine("4: card's SHIRT", "card b ^9 red;", 4);
        wrongLine("4: change's first", "change b ^9 for 8;", 4);
        wrongLine("4: change's second", "change b 1 for ^9;", 4);
        wrong("4: of the TEXT, not of the one ahead of it", "team a:" + SEVEN + ";team b:" + SEVEN + ";card a ^8 red;", 4);
    }

    private static void raidEdges() {
        wrongLine("raid: no SHIRT", "raid ^empty;", 1);
        wrongLine("raid: a name", "raid ^a 1 empty;", 1);
        wrongLine("raid: no RESULT", "raid 1^;", 1);
        wrongLine("raid: no RESULT", "raid 1^", 1);
        for (String word : new String[] {"a", "emptyy", "touche", "ou", "empt"}) {
            wrongLine("raid: no RESULT", "raid 1 ^" + word + ";", 1);
        }
        notThere("raid: no RESULT", "raid 1 ", ";", "empty", "touch", "bonus", "tackled", "out");
        notThere("touch: nothing but a bonus", "raid 1 touch 1 ", ";", "bonus");
        notThere("tackled: nothing but a bonus", "raid 1 tackled 1 ", ";", "bonus");
        wrongLine("empty: nothing more", "raid 1 empty ^bonus;", 1);
        wrongLine("empty: nothing more", "raid 1 empty ^1;", 1);
        wrongLine("out: nothing more", "raid 1 out ^bonus;", 1);
        wrongLine("bonus: nothing more", "raid 1 bonus ^bonus;", 1);
        wrongLine("touch: one at least", "raid 1 touch^;", 1);
        wrongLine("touch: one at least", "raid 1 touch ^bonus;", 1);
        wrongLine("touch: a , at last", "raid 1 touch 1,^;", 1);
        wrongLine("touch: one bonus", "raid 1 touch 1 bonus ^bonus;", 1);
        wrongLine("touch: the bonus last", "raid 1 touch 1 bonus^,2;", 1);
        wrongLine("tackled: by one", "raid 1 tackled^;", 1);
        wrongLine("tackled: by one", "raid 1 tackled 1^,2;", 1);
        wrongLine("tackled: one bonus", "raid 1 tackled 1 bonus ^bonus;", 1);
        // 5: at the raider
        wrongLine("5: the raider WAITS", "raid ^8 empty;", 5);
        wrongLine("5: the raider is OUT", "raid 1 out;raid 1 empty;raid ^1 empty;", 5);
        wrongLine("5: the raider is PUT OFF", "card a 1 yellow;raid ^1 empty;", 5);
        wrongLine("5: the raider is SENT OFF", "card a 1 red;raid ^1 empty;", 5);
        wrongLine("5: all is over", "half;half;raid ^1 empty;", 5);
        // 5: at the touched one (told again, too)
        wrongLine("5: the touched one WAITS", "raid 1 touch 1,^8;", 5);
        wrongLine("5: the touched one is OUT", "raid 1 touch 3;raid 1 empty;raid 1 touch ^3;", 5);
        wrongLine("5: the touched one is PUT OFF", "card b 3 yellow;raid 1 touch 1,2,^3;", 5);
        wrongLine("5: the touched one is SENT OFF", "card b 3 red;raid 1 touch ^3;", 5);
        wrongLine("5: told again, too", "raid 1 touch 3,^3;", 5);
        wrongLine("5: told again, too, the first of seven", "raid 1 touch 1,2,3,4,5,6,7,^1;", 5);
        rightLine("touch: seven of them", "raid 1 touch 7,6,5,4,3,2,1;", "score(0) = 9");
        // 5: at the one who tackles
        wrongLine("5: the one who tackles WAITS", "raid 1 tackled ^8;", 5);
        wrongLine("5: the one who tackles is OUT", "raid 1 touch 3;raid 1 empty;raid 1 tackled ^3;", 5);
        wrongLine("5: the one who tackles is PUT OFF", "card b 3 yellow;raid 1 tackled ^3;", 5);
        wrongLine("5: the one who tackles is SENT OFF", "card b 3 red;raid 1 tackled ^3;", 5);
        // 5: bonus, n being 5
        String five = "raid 1 touch 6,7;raid 1 empty;";
        wrongLine("5: bonus of 5", five + "raid 1 ^bonus;", 5);
        wrongLine("5: touch with a bonus of 5", five + "raid 1 touch 1 ^bonus;", 5);
        wrongLine("5: tackled with a bonus of 5", five + "raid 1 tackled 1 ^bonus;", 5);
        String six = "raid 1 touch 7;raid 1 empty;";
        rightLine("bonus of 6", six + "raid 1 bonus;", "score(0) = 2");
        rightLine("touch with a bonus of 6", six + "raid 1 touch 1 bonus;", "score(0) = 3");
        rightLine("tackled with a bonus of 6", six + "raid 1 tackled 1 bonus;", "score(0) = 2");
    }

    private static void cardEdges() {
        wrongLine("card: no name", "card ^1 red;", 1);
        wrongLine("card: no SHIRT", "card a ^red;", 1);
        wrongLine("card: no colour", "card a 1^;", 1);
        for (String word : new String[] {"blue", "greens", "gree", "a"}) {
            wrongLine("card: no colour", "card a 1 ^" + word + ";", 1);
        }
        notThere("card: no colour", "card a 1 ", ";", "green", "yellow", "red");
        wrongLine("card: nothing more", "card a 1 red ^1;", 1);
        for (String colour : new String[] {"green", "yellow", "red"}) {
            wrongLine("5: at card's SHIRT: it WAITS", "card a ^8 " + colour + ";", 5);
            wrongLine("5: at card's SHIRT: it is SENT OFF", "card a 1 red;card a ^1 " + colour + ";", 5);
            wrongLine("5: at card's SHIRT: all is over", "half;half;card a ^1 " + colour + ";", 5);
            wrongLine("5: at card's SHIRT, not at its colour: all is over", "card a 1 yellow;half;half;card a ^1 " + colour + ";", 5);
            rightLine("a card of one who is ON", "card a 1 " + colour + ";");
            rightLine("a card of one who is OUT", "raid 1 out;card a 1 " + colour + ";");
        }
        wrongLine("5: at its colour, if it is PUT OFF", "card a 1 yellow;card a 1 ^green;", 5);
        wrongLine("5: at its colour, if it is PUT OFF", "card a 1 yellow;card a 1 ^yellow;", 5);
        wrongLine("5: at its colour, if it is PUT OFF by a second green", "card a 1 green;card a 1 green;card a 1 ^green;", 5);
        rightLine("red also of one who is PUT OFF", "card a 1 yellow;card a 1 red;", "is(0, 0) = 4");
        wrongLine("1 ahead of 5 at one byte: no colour, PUT OFF", "card a 1 yellow;card a 1 ^blue;", 1);
        wrongLine("4 ahead of 5 at one byte: no SHIRT, all is over", "half;half;card a ^10 red;", 4);
        wrongLine("2 ahead of 5 at one byte: SHIRT 0, all is over", "half;half;card a ^0 red;", 2);
    }

    private static void changeEdges() {
        wrongLine("change: no name", "change ^1 for 8;", 1);
        wrongLine("change: no SHIRT", "change a ^for 8;", 1);
        wrongLine("change: no for", "change a 1 ^8;", 1);
        notThere("change: no for", "change a 1 ", " 8;", "for");
        notThere("change: no second", "change a 1 for ", ";");
        wrongLine("change: no second", "change a 1 for^;", 1);
        wrongLine("change: nothing more", "change a 1 for 8 ^9;", 1);
        wrongLine("5: change's first WAITS", "change a ^8 for 9;", 5);
        wrongLine("5: change's first is OUT", "raid 1 out;change a ^1 for 8;", 5);
        wrongLine("5: change's first is PUT OFF", "card a 1 yellow;change a ^1 for 8;", 5);
        wrongLine("5: change's first is SENT OFF", "card a 1 red;change a ^1 for 8;", 5);
        wrongLine("5: all is over, at change's first", "half;half;change a ^1 for 8;", 5);
        wrongLine("5: change's second is ON", "change a 1 for ^2;", 5);
        wrongLine("5: change's second is the first", "change a 1 for ^1;", 5);
        wrongLine("5: change's second is OUT", "raid 2 out;change a 1 for ^2;", 5);
        wrongLine("5: change's second is PUT OFF", "card a 2 yellow;change a 1 for ^2;", 5);
        wrongLine("5: change's second is SENT OFF", "card a 2 red;change a 1 for ^2;", 5);
        String five = "change a 1 for 8;change a 8 for 1;change a 1 for 8;change a 8 for 1;change a 1 for 8;";
        rightLine("5 of a TEAM at most", five + "change b 1 for 8;", "is(0, 7) = 0", "is(1, 7) = 0");
        wrongLine("5: a 6th change, at its first", five + "change a ^8 for 1;", 5);
        wrongLine("4 ahead of 5 at one byte: no SHIRT, a 6th change", five + "change a ^10 for 1;", 4);
        wrongLine("a half gives no change back", five + "half;change a ^8 for 1;", 5);
    }

    private static void halfEdges() {
        wrongLine("half: nothing more", "half ^1;", 1);
        rightLine("half: once, a second one ends all", "half;half;", "count(4) = 2", "turn() = -1");
        wrongLine("5: at half, a third one", "half;half;^half;", 5);
        wrongLine("5: at half, ahead of what is wrong behind it", "half;half;^half half;", 5);
        wrongLine("5: no review behind a second half", "raid 1 empty;half;half;review ^a won;", 5);
    }

    private static void reviewEdges() {
        wrongLine("review: no name", "raid 1 empty;review ^won;", 1);
        wrongLine("review: neither won nor lost", "raid 1 empty;review a^;", 1);
        for (String word : new String[] {"wo", "wons", "a"}) {
            wrongLine("review: neither won nor lost", "raid 1 empty;review a ^" + word + ";", 1);
        }
        notThere("review: neither won nor lost", "raid 1 empty;review a ", ";", "won", "lost");
        wrongLine("review: nothing more", "raid 1 empty;review a won ^lost;", 1);
        for (String how : new String[] {"won", "lost"}) {
            wrongLine("5: at review's name: no LINE ahead", "review ^a " + how + ";", 5);
            wrongLine("5: the latest LINE is a card", "raid 1 empty;card a 1 green;review ^a " + how + ";", 5);
            wrongLine("5: the latest LINE is a change", "raid 1 empty;change a 1 for 8;review ^a " + how + ";", 5);
            wrongLine("5: the latest LINE is a half", "raid 1 empty;half;review ^a " + how + ";", 5);
            wrongLine("5: behind a won review the latest LINE is no RAID", "raid 1 empty;raid 1 empty;review b won;review ^a " + how + ";", 5);
            wrongLine("5: behind a lost review the latest LINE is no RAID", "raid 1 empty;raid 1 empty;review b lost;review ^a " + how + ";", 5);
            wrongLine("5: lost: not another one in this half", "raid 1 empty;review a lost;raid 1 empty;review ^a " + how + ";", 5);
            rightLine("lost: the other TEAM can", "raid 1 empty;review a lost;raid 1 empty;review b " + how + ";");
            rightLine("lost: in another half it can", "raid 1 empty;review a lost;half;raid 1 empty;review a " + how + ";");
            rightLine("won: it can ask again", "raid 1 empty;review a won;raid 1 empty;review a " + how + ";");
        }
        wrongLine("5: lost in the second half", "half;raid 1 empty;review b lost;raid 1 empty;review ^b won;", 5);
        wrongLine("4 ahead of 5 at one byte: no such name, no RAID", "review ^c won;", 4);
        wrongLine("1 ahead of 5 at one byte: no name, no RAID", "review ^won;", 1);
    }

    // 7: a 201st raid, a 41st other LINE (at its word, ahead of 5 there).
    private static void limitEdges() {
        String raids = "raid1out;".repeat(200);
        rightLine("200 RAIDS", raids, "count(2) = 200");
        wrongLine("7: a 201st raid (at its word)", raids + "^raid 1 out;", 7);
        wrongLine("7: a 201st raid, ahead of what is wrong behind its word", raids + "^raid 100 x;", 7);
        wrongLine("7: a 201st raid behind a half", raids + "half;^raid 1 out;", 7);
        rightLine("a won review takes a RAID away", raids + "review a won;raid 1 out;", "count(2) = 200", "count(3) = 1");
        wrongLine("7: but one RAID alone", raids + "review a won;raid 1 out;^raid 1 out;", 7);
        wrongLine("7: a lost one takes none away", raids + "review a lost;^raid 1 out;", 7);
        String reviews = "raid1out;review a won;".repeat(39);
        for (String line : new String[] {"card a 1 red;", "change a 1 for 8;", "half;", "raid1out;review b lost;"}) {
            rightLine("40 other LINES", reviews + line, "count(3) = 40");
            for (String more : new String[] {"card a 2 red;", "change a 2 for 9;", "half;"}) {
                wrongLine("7: a 41st other LINE (at its word)", reviews + line + "^" + more, 7);
            }
            wrongLine("7: a 41st other LINE (at its word)", reviews + line + "raid 2 empty;^review a won;", 7);
        }
        wrongLine("7 ahead of 5: half", "half;" + "raid1out;review a won;".repeat(38) + "half;^half;", 7);
        wrongLine("7 ahead of 5: review", reviews + "half;^review a won;", 7);
        wrongLine("5 without 7: half", "half;" + "raid1out;review a won;".repeat(37) + "half;^half;", 5);
        rightLine("a RAID behind 40 other LINES", reviews + "half;raid 1 out;", "count(2) = 1");
    }

    // Of several the one whose first byte is least, of one byte the least number.
    private static void orderOfFaults() {
        wrong("of several the first: 6 ahead of 1", "team a:1,2,3^;x", 6);
        wrong("of several the first: 3 ahead of 2", "team a:1,^1,0;", 3);
        wrong("of several the first: 2 ahead of 1", "team a:^0,x;", 2);
        wrong("of several the first: 1 ahead of 2", "team ^5:0;", 1);
        wrongLine("of several the first: 5 ahead of 1", "raid ^8 x;", 5);
        wrongLine("of several the first: 4 ahead of 1", "card ^c x;", 4);
        wrongLine("of several the first: 5 ahead of 2", "raid 1 touch ^8,100;", 5);
        wrongLine("of several the first: 5 ahead of no ;", "raid 1 touch 1,^1", 5);
        wrongLine("of several the first: no ; ahead of 5", "raid 1 touch 1 ^raid 1 empty;", 1);
        wrongLine("of several the first: of the second LINE", "raid 1 empty;raid ^8 empty;raid 0 empty;", 5);
        wrongLine("of one byte the least: raider 100 when all is over", "half;half;raid ^100 empty;", 2);
        wrongLine("of one byte the least: raider 99 when all is over", "half;half;raid ^99 empty;", 4);
        wrongLine("of one byte the least: no raider when all is over", "half;half;raid ^empty;", 1);
        wrong("the end's place: behind blanks", "team a:1, \n^", 1);
        wrong("the end's place: no blank", "team a:1,^", 1);
        wrongLine("the end's place: in a LINE", "raid 1 touch 2 ^", 1);
    }
}
