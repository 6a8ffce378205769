/** What the tests share: feeding texts, reading OUT, and counting answers that are not as due. */
public final class Talk {
    public static final String TEAMS = "team a:1,2,3,4,5,6,7,8,9;team b:1,2,3,4,5,6,7,8;";

    private static int wrong = 0;
    private static int asked = 0;

    private Talk() {
    }

    public static void due(String call, long got, long want) {
        asked++;
        if (got != want) {
            wrong++;
            System.out.println(call + " answered " + got + ", due is " + want);
        }
    }

    public static void dueText(String call, String got, String want) {
        asked++;
        if (!got.equals(want)) {
            wrong++;
            System.out.println(call + " answered '" + got + "', due is '" + want + "'");
        }
    }

    public static void finish(String name) {
        System.out.println(name + ": " + asked + " answers, " + wrong + " not as due");
        if (wrong != 0) {
            System.exit(1);
        }
    }

    /** Puts the bytes of a text (characters 0 to 255) behind the TAPE: how many the TAPE has. */
    public static int feed(RaidMat x, String text) {
        int had = x.count(6);
        for (int at = 0; at < text.length(); at += 20) {
            int[] n = new int[5];
            for (int i = 0; i < 20; i++) {
                int c = at + i < text.length() ? text.charAt(at + i) : ' ';
                n[i / 4] = n[i / 4] << 8 | c & 255;
            }
            x.feed(n[0], n[1], n[2], n[3], n[4]);
        }
        return x.end(had + text.length());
    }

    public static int text(RaidMat x, String text) {
        feed(x, text);
        return x.text();
    }

    public static int find(RaidMat x, String name) {
        feed(x, name);
        return x.find();
    }

    /** A new object with a TEXT: two TEAMS of nine and eight, and these LINES. */
    public static RaidMat match(String lines) {
        RaidMat x = new RaidMat();
        int answer = text(x, TEAMS + lines);
        if (answer < 0) {
            due("text() of " + lines + " with fault " + x.fault(0) + " at " + (x.fault(1) - TEAMS.length()), answer, 0);
        }
        return x;
    }

    public static String told(RaidMat x) {
        StringBuilder out = new StringBuilder();
        for (int i = 0; i < x.count(7); i++) {
            out.append((char) x.octet(i));
        }
        return out.toString();
    }
}
