import java.lang.reflect.Method;
import java.nio.file.Files;
import java.nio.file.Path;
import java.util.ArrayList;
import java.util.List;
import java.util.regex.Matcher;
import java.util.regex.Pattern;
import javax.tools.ToolProvider;

/** Runs the lines of Java in README.md and holds each answer that a comment there tells. */
public final class UseTest {
    private static final Path README = Path.of("README.md");
    private static final Pattern ANSWERED = Pattern.compile("(room\\..*); *// (-?\\d+)(:.*)?");
    private static final int LEAST_ANSWERS = 40;

    private static List<String> linesOfJava(List<String> page) {
        List<String> lines = new ArrayList<>();
        boolean inJava = false;
        for (String line : page) {
            if (line.startsWith("```")) inJava = line.equals("```java");
            else if (inJava) lines.add(line);
        }
        return lines;
    }

    /** A line the comment of which begins with a number becomes one that holds the answer. */
    private static String held(String line) {
        Matcher answered = ANSWERED.matcher(line);
        if (!answered.matches()) return line;
        String call = answered.group(1);
        return "due.is(\"" + call + "\", " + call + ", " + answered.group(2) + "L);";
    }

    /** Compiled beside this class, since Due and FlyerRoom are found from there. */
    private static Method compiled(List<String> lines) throws Exception {
        String dir = System.getProperty("java.class.path");
        Path file = Path.of(dir, "ReadmeUse.java");
        String body = String.join("\n", lines);
        Files.writeString(file, "final class ReadmeUse { static void use(Due due) {\n" + body + "\n} }\n");
        int failed = ToolProvider.getSystemJavaCompiler().run(null, null, null, "-cp", dir, "-d", dir, file.toString());
        if (failed != 0) throw new IllegalStateException("README.md's Java does not compile");
        return Class.forName("ReadmeUse").getDeclaredMethod("use", Due.class);
    }

    public static void main(String[] args) throws Exception {
        List<String> lines = new ArrayList<>();
        int answers = 0;
        for (String line : linesOfJava(Files.readAllLines(README))) {
            String held = held(line);
            if (!held.equals(line)) answers++;
            lines.add(held);
        }
        Due due = new Due();
        due.sentence(README.toString());
        compiled(lines).invoke(null, due);
        due.is("whether enough answers are told", answers >= LEAST_ANSWERS ? 1 : 0, 1);
        due.end();
    }
}
