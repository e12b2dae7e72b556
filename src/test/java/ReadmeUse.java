import java.io.IOException;
import java.lang.reflect.Method;
import java.lang.reflect.Modifier;
import java.nio.file.Files;
import java.nio.file.Path;
import java.util.ArrayList;
import java.util.List;
import java.util.Set;
import java.util.TreeSet;
import java.util.regex.Matcher;
import java.util.regex.Pattern;

/**
 * Makes a test, ReadmeTest, of the use that README.md shows: its Java lines as they stand there, one after the other, with
 * each answer that they tell looked at. A call without an answer (but in a loop), and a call of the face that is not shown,
 * are wrong.
 * The arguments: the path of README.md, and the directory to write to.
 */
public final class ReadmeUse {
    private static final String BEGIN = "```java";
    private static final String END = "```";
    private static final Pattern CALL = Pattern.compile("words\\.(\\w+)\\(");
    private static final Pattern TOLD =
            Pattern.compile("(words\\.\\w+\\([^;]*\\));\\s+// (throws \\w+|-?[0-9]+(?:\\.[0-9]+)?)(?:[:, ].*)?");

    private final StringBuilder test = new StringBuilder();
    private final Set<String> shown = new TreeSet<>();
    private int wrong;

    public static void main(String[] args) throws IOException {
        ReadmeUse use = new ReadmeUse();
        use.translate(javaLines(Files.readAllLines(Path.of(args[0]))));
        use.needWholeFace();
        if (use.wrong != 0) {
            System.exit(1);
        }
        Files.writeString(Path.of(args[1], "ReadmeTest.java"), use.test);
    }

    private static List<String> javaLines(List<String> lines) {
        List<String> java = new ArrayList<>();
        boolean inside = false;
        for (String line : lines) {
            if (line.equals(BEGIN) || line.equals(END)) {
                inside = line.equals(BEGIN);
            } else if (inside) {
                java.add(line);
            }
        }
        return java;
    }

    private void translate(List<String> lines) {
        test.append("public final class ReadmeTest {\n    public static void main(String[] args) {\n");
        for (String line : lines) {
            Matcher call = CALL.matcher(line);
            while (call.find()) {
                shown.add(call.group(1));
            }
            if (line.startsWith("words.")) {
                translateCall(line);
            } else {
                test.append(line).append('\n');
            }
        }
        test.append("Check.end();\n    }\n}\n");
    }

    private void translateCall(String line) {
        Matcher told = TOLD.matcher(line);
        if (!told.matches()) {
            complain("README.md tells no answer: " + line);
            return;
        }
        String call = told.group(1);
        test.append("Check.same(\"").append(call.replace("\\", "\\\\").replace("\"", "\\\"")).append("\", \"")
                .append(told.group(2)).append("\", () -> String.valueOf(").append(call).append("));\n");
    }

    private void needWholeFace() {
        for (Method method : InsideOutWords.class.getDeclaredMethods()) {
            if (Modifier.isPublic(method.getModifiers()) && !shown.contains(method.getName())) {
                complain("README.md does not show " + method.getName());
            }
        }
    }

    private void complain(String what) {
        wrong++;
        System.out.println(what);
    }
}
