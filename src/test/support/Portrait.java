import java.util.ArrayList;
import java.util.List;

/** All that can be asked of an object, so that two of them can be held against one another. */
public final class Portrait {
    private static final List<Story.Call> QUESTIONS = new ArrayList<>();
    private static final int FAULTS = 2;

    static {
        ask("fault", 0, 1);
        ask("count", 0, 7);
        for (String name : "turn bonus changes draws most".split(" ")) {
            QUESTIONS.add(new Story.Call(name + "()"));
        }
        for (int k = -1; k <= 202; k = k == 12 ? 196 : k + 1) {
            ask("raidOf(" + k + ", ", 0, 8);
            QUESTIONS.add(new Story.Call("lead(" + k + ")"));
        }
        for (int what = 0; what <= 6; what++) {
            ask("best(" + what + ", ", 0, 20);
        }
        ask("octet", 0, 40);
        ask("octet", 1990, 2000);
        for (int team = 0; team < 2; team++) {
            askTeam(team);
            for (int i = 0; i < 10; i++) {
                askPlayer(team, i);
            }
        }
        for (int raider = 0; raider < 10; raider++) {
            for (String raid : new String[] {"0, 0, 0, ", "1, 1, 0, ", "1, 96, 1, ", "2, 0, 0, ", "3, 2, 0, ", "4, 0, 0, "}) {
                ask("would(" + raider + ", " + raid, 0, 3);
            }
        }
    }

    private Portrait() {
    }

    private static void ask(String name, int from, int to) {
        for (int n = from; n <= to; n++) {
            QUESTIONS.add(new Story.Call(name + (name.contains("(") ? "" : "(") + n + ")"));
        }
    }

    private static void askTeam(int team) {
        for (String name : "score empties run needs longest great behind may lives".split(" ")) {
            ask(name, team, team);
        }
        ask("letter(" + team + ", ", 0, 5);
        ask("who(" + team + ", ", 1, 12);
        ask("those(" + team + ", ", 0, 4);
        ask("outs(" + team + ", ", 0, 7);
        ask("parts(" + team + ", ", 0, 5);
        ask("stood(" + team + ", ", 0, 12);
        ask("pressed(" + team + ", ", 0, 1);
        ask("gained(" + team + ", 0, ", 0, 12);
        ask("allOut(" + team + ", ", 0, 3);
        ask("some(" + team + ", ", 0, 7);
        ask("sum(" + team + ", ", 0, 7);
        for (int what = 0; what <= 4; what++) {
            ask("shirts(" + team + ", " + what + ", ", 0, 7);
        }
    }

    private static void askPlayer(int team, int i) {
        String player = team + ", " + i;
        for (String name : "shirt is wait lasted share streak last".split(" ")) {
            QUESTIONS.add(new Story.Call(name + "(" + player + ")"));
        }
        ask("of(" + player + ", ", 0, 7);
        ask("first(" + player + ", ", 0, 1);
        QUESTIONS.add(new Story.Call("rate(" + player + ", 1, 100)"));
        for (int j = 0; j < 10; j++) {
            ask("met(" + player + ", " + j + ", ", 0, 1);
        }
    }

    /** Holds what is answered behind one run against what is answered behind another one. */
    public static void same(String sentence, Story one, Story other) {
        hold(sentence, one, other, 0);
    }

    /** As same(), but fault() may differ. */
    public static void sameButFault(String sentence, Story one, Story other) {
        hold(sentence, one, other, FAULTS);
    }

    private static void hold(String sentence, Story one, Story other, int from) {
        int room = Story.LIMIT - Math.max(one.size(), other.size());
        int wrong = 0;
        for (int start = from; start < QUESTIONS.size(); start += room) {
            RaidMat x = one.play();
            RaidMat y = other.play();
            for (int q = start; q < QUESTIONS.size() && q < start + room; q++) {
                int got = QUESTIONS.get(q).on(x);
                int want = QUESTIONS.get(q).on(y);
                if (got != want && ++wrong <= 3) {
                    Talk.due(sentence + ": behind " + one + ": " + QUESTIONS.get(q), got, want);
                }
            }
        }
        Talk.due(sentence + ": answers behind " + one + " unlike those behind " + other, wrong, 0);
    }

    /** Asks everything twice of one object: the first asking changes nothing. */
    public static void steady(String sentence, Story story) {
        int room = (Story.LIMIT - story.size()) / 2;
        for (int start = 0; start < QUESTIONS.size(); start += room) {
            RaidMat x = story.play();
            int end = Math.min(QUESTIONS.size(), start + room);
            int[] first = new int[end - start];
            for (int q = start; q < end; q++) {
                first[q - start] = QUESTIONS.get(q).on(x);
            }
            for (int q = start; q < end; q++) {
                Talk.due(sentence + ": asked again: " + QUESTIONS.get(q), QUESTIONS.get(q).on(x), first[q - start]);
            }
        }
    }

    public static int size() {
        return QUESTIONS.size();
    }
}
