import java.lang.reflect.InvocationTargetException;
import java.lang.reflect.Method;
import java.lang.reflect.Modifier;
import java.util.ArrayList;
import java.util.Arrays;
import java.util.HashMap;
import java.util.List;
import java.util.Map;

/**
 * A run of calls that can be made again on a new object each time, so that no object is asked more
 * than the 512 times that the document speaks of. A call is written as it stands in Java, with MIN and
 * MAX for the least and the greatest int.
 */
public final class Story {
    public static final int LIMIT = 512;

    /** One call, ready to be made on any object. */
    public static final class Call {
        private final String name;
        private final Method method;
        private final Object[] given;

        public Call(String written) {
            int open = written.indexOf('(');
            String inside = written.substring(open + 1, written.lastIndexOf(')')).trim();
            String[] parts = inside.isEmpty() ? new String[0] : inside.split(",");
            given = new Object[parts.length];
            for (int i = 0; i < parts.length; i++) {
                given[i] = number(parts[i].trim());
            }
            name = written;
            method = METHODS.get(written.substring(0, open).trim());
            if (method == null || method.getParameterCount() != given.length) {
                throw new IllegalArgumentException("no such call: " + written);
            }
        }

        public int on(RaidMat x) {
            try {
                return (Integer) method.invoke(x, given);
            } catch (InvocationTargetException | IllegalAccessException e) {
                throw new IllegalStateException(name + " threw", e);
            }
        }

        @Override
        public String toString() {
            return name;
        }
    }

    private static final Map<String, Method> METHODS = new HashMap<>();

    static {
        for (Method m : RaidMat.class.getDeclaredMethods()) {
            if (Modifier.isPublic(m.getModifiers())) {
                METHODS.put(m.getName(), m);
            }
        }
    }

    private final List<Call> calls;
    private final String title;

    private Story(List<Call> made, String told) {
        calls = made;
        title = told;
    }

    private static int number(String written) {
        if (written.equals("MIN")) {
            return Integer.MIN_VALUE;
        }
        return written.equals("MAX") ? Integer.MAX_VALUE : Integer.parseInt(written);
    }

    /** A new object. */
    public static Story blank() {
        return new Story(new ArrayList<>(), "new");
    }

    /** A TEXT of the TEAMS of Talk and these LINES, which is known to have no FAULT. */
    public static Story of(String lines) {
        Story story = blank().text(Talk.TEAMS + lines);
        RaidMat x = story.play();
        if (x.fault(0) != 0) {
            Talk.due("a test's own TEXT is right, at " + (x.fault(1) - Talk.TEAMS.length()) + " of " + lines, x.fault(0), 0);
        }
        return story;
    }

    /** Calls that are known to be done: none of them is refused. */
    public Story then(String... more) {
        RaidMat x = play();
        for (String written : more) {
            int answer = new Call(written).on(x);
            if (answer < 0) {
                Talk.due("a test's own call is done: behind " + this + ": " + written, answer, 0);
            }
        }
        return tried(more);
    }

    /** Calls, whatever they answer. */
    public Story tried(String... more) {
        List<Call> all = new ArrayList<>(calls);
        for (String written : more) {
            all.add(new Call(written));
        }
        return new Story(all, title + " " + String.join(" ", more));
    }

    /** The bytes of a text (characters 0 to 255) on an empty TAPE. */
    public Story tape(String text) {
        List<Call> all = new ArrayList<>(calls);
        for (int at = 0; at < text.length(); at += 20) {
            int[] n = new int[5];
            for (int i = 0; i < 20; i++) {
                int c = at + i < text.length() ? text.charAt(at + i) : '!';
                n[i / 4] = n[i / 4] << 8 | c & 255;
            }
            String given = Arrays.toString(n);
            all.add(new Call("feed(" + given.substring(1, given.length() - 1) + ")"));
        }
        all.add(new Call("end(" + text.length() + ")"));
        return new Story(all, title + " '" + text + "'");
    }

    public Story text(String text) {
        return tape(text).tried("text()");
    }

    public int size() {
        return calls.size();
    }

    /** A new object, behind all calls of the run. */
    public RaidMat play() {
        RaidMat x = new RaidMat();
        for (Call call : calls) {
            call.on(x);
        }
        return x;
    }

    @Override
    public String toString() {
        return title.length() <= 160 ? title : title.substring(0, 60) + " .. " + title.substring(title.length() - 90);
    }
}
