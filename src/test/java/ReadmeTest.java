import java.io.File;
import java.io.IOException;
import java.lang.reflect.Method;
import java.lang.reflect.Modifier;
import java.nio.file.Files;
import java.nio.file.Path;
import java.util.regex.Matcher;
import java.util.regex.Pattern;

/** README.md tells the truth: its example answers as it says, and it names every call and every test. */
public final class ReadmeTest {
    private static final Pattern CALL = Pattern.compile("mat\\.(\\w+)\\(([^)]*)\\); +// (.*)");
    private static final Pattern ANSWER = Pattern.compile("(-?\\d+)(?:$|: .*)");

    public static void main(String[] args) throws IOException {
        String readme = Files.readString(Path.of("README.md"));
        example(blockOf(readme, "```java\n"));
        everyCall(readme);
        everyTest(readme);
        Talk.finish("ReadmeTest");
    }

    private static String blockOf(String readme, String opening) {
        int start = readme.indexOf(opening) + opening.length();
        return readme.substring(start, readme.indexOf("```", start));
    }

    private static void example(String block) {
        RaidMat mat = new RaidMat();
        int calls = 0;
        for (String line : block.split("\n")) {
            Matcher m = CALL.matcher(line);
            if (!m.matches()) {
                Talk.dueText("a line of the example without an answer", line, "RaidMat mat = new RaidMat();");
                continue;
            }
            calls++;
            String[] given = m.group(2).isEmpty() ? new String[0] : m.group(2).split(", ");
            for (int i = 0; i < given.length; i++) {
                given[i] = String.valueOf(Integer.decode(given[i]));
            }
            String call = m.group(1) + "(" + String.join(", ", given) + ")";
            int answer = new Story.Call(call).on(mat);
            if (m.group(1).equals("feed")) {
                Talk.dueText(call, bytes(given), m.group(3));
                continue;
            }
            Matcher told = ANSWER.matcher(m.group(3));
            Talk.due(call + " has an answer in the example", told.matches() ? 1 : 0, 1);
            if (told.matches()) {
                Talk.due(call, answer, Integer.parseInt(told.group(1)));
            }
        }
        Talk.due("the example has calls", calls > 10 ? 1 : 0, 1);
    }

    private static String bytes(String[] numbers) {
        StringBuilder s = new StringBuilder("\"");
        for (String number : numbers) {
            for (int shift = 24; shift >= 0; shift -= 8) {
                s.append((char) (Integer.parseInt(number) >>> shift & 255));
            }
        }
        return s.append('"').toString();
    }

    private static void everyCall(String readme) {
        String list = readme.substring(readme.indexOf("### The calls"), readme.indexOf("## How to run"));
        for (Method m : RaidMat.class.getDeclaredMethods()) {
            boolean isFace = Modifier.isPublic(m.getModifiers());
            Talk.due(m.getName() + " is told", !isFace || list.contains("`" + m.getName() + "`") ? 1 : 0, 1);
        }
    }

    private static void everyTest(String readme) {
        String list = readme.substring(readme.indexOf("## How to run"));
        File[] files = new File("src/test/java").listFiles();
        for (File file : files == null ? new File[0] : files) {
            String name = file.getName().replace(".java", "");
            Talk.due(name + " is told", list.contains("`" + name + "`") ? 1 : 0, 1);
        }
        Matcher m = Pattern.compile("`(\\w+Test)`").matcher(list);
        while (m.find()) {
            Talk.due(m.group(1) + " is there", new File("src/test/java/" + m.group(1) + ".java").isFile() ? 1 : 0, 1);
        }
    }
}
