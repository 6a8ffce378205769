import java.util.ArrayList;
import java.util.List;

/**
 * "-2: there is no such TEAM, PLAYER, RAID, what, number as told (all, without a TEXT); ahead of NONE,
 * -3, -6": for each call that answers -2, each number it takes just below its least, just above its
 * greatest, at the ends of int; and at its least and its greatest it is not refused so.
 */
public final class BoundsTest {
    // T: a TEAM. I: a PLAYER of it. J: a PLAYER of the other one. a..b: from a to b; a..: with no greatest.
    private static final String[] ASKED = {
        "letter T 0..5", "shirt T I", "who T 1..99", "is T I", "those T 0..4", "outs T 0..", "wait T I", "score T",
        "empties T", "of T I 0..7", "parts T 0..5", "raidOf 0.. 0..8", "run T", "best 0..6 0..", "rate T I 0..6 *",
        "needs T", "met T I J 0..1", "lasted T I", "stood T 0..", "longest T", "great T", "behind T", "first T I 0..1",
        "may T", "pressed T 0..1", "shirts T 0..4 0..", "allOut T 0..", "share T I", "streak T I", "last T I",
        "some T 0..7", "sum T 0..7", "lives T",
    };
    private static final String[] ACTED = {"card T I 0..2", "change T I I", "review T 0..1", "tell 0..2"};
    private static final String[] BARE = {"turn()", "bonus()", "changes()", "draws()", "most()", "half()", "find()"};

    private static final long LEAST = Integer.MIN_VALUE;
    private static final long GREATEST = Integer.MAX_VALUE;
    private static final int[] SIZES = {9, 8};

    /** What a call takes: the TEAM that stands first in it tells the bounds of PLAYERS. */
    private record Range(long least, long greatest) {
    }

    private static Range rangeOf(String kind, int team) {
        switch (kind) {
            case "T": return new Range(0, 1);
            case "I": return new Range(0, SIZES[team] - 1);
            case "J": return new Range(0, SIZES[1 - team] - 1);
            case "*": return new Range(LEAST, GREATEST);
            default:
                String[] ends = kind.split("\\.\\.", -1);
                return new Range(Long.parseLong(ends[0]), ends[1].isEmpty() ? GREATEST : Long.parseLong(ends[1]));
        }
    }

    public static void main(String[] args) {
        Story told = Story.of("raid 1 touch 1,2 bonus;raid 3 tackled 1 bonus;raid 1 empty;card a 1 green;raid 4 out;"
            + "raid 2 tackled 5;card b 7 yellow;").then("tell(0)");
        Story[] bases = {
            told,
            told.then("raid(4, 2, 0, 0)"),
            Story.of(""),
            Story.of("raid 1 bonus;half;half;"),
            Story.of("raid1out;".repeat(200)),
            Story.of("raid1out;review a won;".repeat(40)),
        };
        for (Story base : bases) {
            for (String row : ASKED) {
                refusedTogether(base, row);
            }
            for (String row : ACTED) {
                refusedEach(base, row);
            }
        }
        notRefusedWithin(told);
        withoutText();
        questionsChangeNothing(bases);
        Talk.finish("BoundsTest");
    }

    private static String write(String row, long[] given) {
        StringBuilder s = new StringBuilder(row.split(" ")[0] + "(");
        for (int i = 0; i < given.length; i++) {
            s.append(i == 0 ? "" : ", ").append(given[i]);
        }
        return s.append(")").toString();
    }

    /** All calls of a row with its numbers at their least and at their greatest. */
    private static List<String> within(String row) {
        List<String> calls = new ArrayList<>();
        String[] kinds = row.split(" ");
        for (int ends = 0; ends < 1 << kinds.length - 1; ends++) {
            long[] given = new long[kinds.length - 1];
            for (int i = 0; i < given.length; i++) {
                Range range = rangeOf(kinds[i + 1], kinds[1].equals("T") ? (int) given[0] : 0);
                given[i] = (ends >> i & 1) == 0 ? range.least : range.greatest;
            }
            calls.add(write(row, given));
        }
        return calls;
    }

    /** All calls of a row with one of its numbers beyond its bounds, the others within. */
    private static List<String> beyond(String row) {
        List<String> calls = new ArrayList<>();
        String[] kinds = row.split(" ");
        for (int wrong = 0; wrong < kinds.length - 1; wrong++) {
            for (int ends = 0; ends < 1 << kinds.length - 1; ends++) {
                long[] given = new long[kinds.length - 1];
                for (int i = 0; i < given.length; i++) {
                    Range range = rangeOf(kinds[i + 1], kinds[1].equals("T") && given[0] == 1 ? 1 : 0);
                    boolean isLeast = (ends >> i & 1) == 0;
                    given[i] = i == wrong ? isLeast ? range.least - 1 : range.greatest + 1 : isLeast ? range.least : range.greatest;
                }
                addIfInt(calls, row, given);
                given[wrong] = (ends >> wrong & 1) == 0 ? LEAST : GREATEST;
                Range range = rangeOf(kinds[wrong + 1], kinds[1].equals("T") && given[0] == 1 ? 1 : 0);
                if (given[wrong] < range.least || given[wrong] > range.greatest) {
                    addIfInt(calls, row, given);
                }
            }
        }
        return calls;
    }

    private static void addIfInt(List<String> calls, String row, long[] given) {
        for (long number : given) {
            if (number < LEAST || number > GREATEST) {
                return;
            }
        }
        calls.add(write(row, given));
    }

    private static void refusedTogether(Story base, String row) {
        List<String> calls = beyond(row);
        RaidMat x = base.play();
        for (String call : calls) {
            Talk.due("-2: " + row + ": behind " + base + ": " + call, new Story.Call(call).on(x), -2);
        }
        if (base.size() + calls.size() < Story.LIMIT) {
            Portrait.same("-2: " + row, base.tried(calls.toArray(new String[0])), base);
        }
    }

    private static void refusedEach(Story base, String row) {
        for (String call : beyond(row)) {
            Edge.refused("-2: " + row, base, call, -2);
        }
    }

    private static void notRefusedWithin(Story base) {
        for (String[] rows : new String[][] {ASKED, ACTED}) {
            for (String row : rows) {
                for (String call : within(row)) {
                    int answer = new Story.Call(call).on(base.play());
                    Talk.due("within: " + row + ": " + call, answer == -2 ? -2 : 0, 0);
                }
            }
        }
    }

    /** Without a TEXT: a new object, and one whose only text() was undone or had a FAULT. */
    private static void withoutText() {
        Story[] bases = {Story.blank(), Story.of("raid 1 bonus;").then("undo()"), Story.blank().text("team a:1;")};
        for (Story base : bases) {
            for (String[] rows : new String[][] {ASKED, ACTED}) {
                for (String row : rows) {
                    for (String call : within(row)) {
                        Edge.due("-2: all, without a TEXT", base, call, -2);
                    }
                }
            }
            for (String call : BARE) {
                Edge.refused("-2: all, without a TEXT", base, call, -2);
            }
            for (String call : new String[] {"raid(0, 0, 0, 0)", "would(0, 0, 0, 0, 0)", "gained(0, 0, 0)", "card(0, 0, 0)",
                "change(0, 0, 7)", "review(0, 0)", "review(0, 1)", "tell(0)"}) {
                Edge.refused("-2: all, without a TEXT", base, call, -2);
            }
            Edge.refused("undo: NONE: none", base, "undo()", -1);
            Edge.all("without a TEXT", base, "count(0) = 0", "count(1) = 0", "count(2) = 0", "count(3) = 0", "count(4) = 0",
                "count(5) = 0", "count(7) = 0", "lead(0) = -1000", "octet(0) = -1");
        }
        Portrait.same("undo: all as ahead of a first text()", bases[1], bases[0]);
        Portrait.sameButFault("text: -4: all else stays", bases[2], bases[0]);
    }

    private static void questionsChangeNothing(Story[] bases) {
        for (Story base : bases) {
            Portrait.steady("questions change nothing", base);
        }
        Portrait.steady("questions change nothing", Story.blank());
    }
}
