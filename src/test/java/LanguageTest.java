import java.io.IOException;
import java.lang.reflect.Constructor;
import java.lang.reflect.Field;
import java.lang.reflect.Method;
import java.lang.reflect.Modifier;
import java.nio.file.Files;
import java.nio.file.Path;
import java.util.ArrayList;
import java.util.Arrays;
import java.util.List;
import java.util.Set;
import java.util.TreeSet;
import java.util.regex.Matcher;
import java.util.regex.Pattern;

/** The rules of LANGUAGE.md that can be seen from the source and the compiled classes, and the document's face. */
public final class LanguageTest {
    public static void main(String[] args) throws IOException {
        String source = Files.readString(Path.of("src/main/java/RaidMat.java"));
        String code = withoutComments(source);
        face(Files.readString(Path.of("../shared/DOC.md")));
        words(code);
        sizes(code);
        members();
        Talk.finish("LanguageTest");
    }

    private static void rule(String rule, boolean holds) {
        Talk.due(rule, holds ? 1 : 0, 1);
    }

    private static String withoutComments(String source) {
        String code = Pattern.compile("/\\*.*?\\*/", Pattern.DOTALL).matcher(source).replaceAll("");
        return code.replaceAll("//[^\n]*", "");
    }

    private static String signature(Method m) {
        StringBuilder s = new StringBuilder(m.getReturnType().getSimpleName() + " " + m.getName());
        for (Class<?> type : m.getParameterTypes()) {
            s.append(' ').append(type.getSimpleName());
        }
        return s.toString();
    }

    private static void face(String document) {
        Set<String> due = new TreeSet<>();
        String block = document.substring(document.indexOf("public final class"), document.indexOf("## Terms"));
        Matcher m = Pattern.compile("public int (\\w+)\\(([^)]*)\\);").matcher(block);
        while (m.find()) {
            StringBuilder s = new StringBuilder("int " + m.group(1));
            for (String parameter : m.group(2).isEmpty() ? new String[0] : m.group(2).split(",")) {
                s.append(' ').append(parameter.trim().split(" ")[0]);
            }
            due.add(s.toString());
        }
        Set<String> got = new TreeSet<>();
        for (Method method : RaidMat.class.getDeclaredMethods()) {
            if (!Modifier.isPrivate(method.getModifiers())) {
                got.add(signature(method));
                rule(method + " is public and no more", method.getModifiers() == Modifier.PUBLIC);
            }
        }
        Talk.dueText("the face", got.toString(), due.toString());
        rule("public final class", RaidMat.class.getModifiers() == (Modifier.PUBLIC | Modifier.FINAL));
        Constructor<?>[] made = RaidMat.class.getDeclaredConstructors();
        rule("one public constructor", made.length == 1 && Modifier.isPublic(made[0].getModifiers()));
        for (Field field : RaidMat.class.getDeclaredFields()) {
            rule(field + " is private", Modifier.isPrivate(field.getModifiers()) || field.getName().equals("NONE"));
        }
    }

    private static void words(String code) {
        for (String word : "throw try catch synchronized assert import package volatile var goto protected Exact".split(" ")) {
            rule("no " + word, !Pattern.compile("\\b" + word + "\\b").matcher(code).find());
        }
        for (String sign : new String[] {"->", "::", "\" +", "+ \"", "@", "static {"}) {
            rule("no " + sign, !code.contains(sign));
        }
        rule("no while (true)", !code.contains("while (true)") && !code.contains("for (;;)"));
    }

    private static void sizes(String code) {
        String[] lines = code.split("\n");
        int start = -1;
        String name = "";
        Pattern head = Pattern.compile("^ +(?:(?:public|private|static) )*(?:int|long|void|boolean|String|Side|Tale|\\w+) ?(\\w*)\\(([^)]*)\\) \\{$");
        for (int i = 0; i < lines.length; i++) {
            Matcher m = head.matcher(lines[i]);
            if (m.matches() && !lines[i].matches(".*\\b(if|for|while|switch|return|else)\\b.*")) {
                start = i;
                name = lines[i].trim();
                rule(name + ": at most seven parameters", m.group(2).split(",").length <= 7);
            }
            if (start >= 0 && lines[i].equals(lines[start].replaceAll("\\S.*", "") + "}")) {
                rule(name + ": at most sixty lines", i - start + 1 <= 60);
                start = -1;
            }
        }
    }

    private static void members() {
        List<Class<?>> classes = new ArrayList<>(Arrays.asList(RaidMat.class.getDeclaredClasses()));
        rule("at most twelve classes", classes.size() + 1 <= 12);
        Set<String> publicNames = new TreeSet<>();
        for (Method m : RaidMat.class.getDeclaredMethods()) {
            if (Modifier.isPublic(m.getModifiers())) {
                publicNames.add(m.getName());
            }
        }
        classes.add(RaidMat.class);
        for (Class<?> c : classes) {
            rule(c + " is static", c == RaidMat.class || Modifier.isStatic(c.getModifiers()));
            rule(c + " stands in RaidMat itself", c == RaidMat.class || c.getDeclaringClass() == RaidMat.class);
            int fields = 0;
            for (Field f : c.getDeclaredFields()) {
                boolean isStatic = Modifier.isStatic(f.getModifiers());
                fields += isStatic ? 0 : 1;
                rule(f + " is final", !isStatic || Modifier.isFinal(f.getModifiers()));
            }
            rule(c + ": at most twenty fields", fields <= 20);
            for (Method m : c.getDeclaredMethods()) {
                boolean isFace = c == RaidMat.class && Modifier.isPublic(m.getModifiers());
                rule(m + " bears no public name", isFace || !publicNames.contains(m.getName()));
            }
        }
    }
}
