import java.lang.reflect.Method;
import java.lang.reflect.Modifier;
import java.net.URL;
import java.net.URLClassLoader;
import java.nio.file.Files;
import java.nio.file.Path;
import java.util.ArrayList;
import java.util.List;
import java.util.regex.Matcher;
import java.util.regex.Pattern;
import javax.tools.ToolProvider;

/** Whether README.md holds: the calls that it shows answer the number behind them, and its table names every call once. */
public final class ReadmeTest {
    private static final Pattern ANSWERED = Pattern.compile("(ring\\..*);\\s*// (-?[0-9]+)(:.*)?");
    private static final List<String> complaints = new ArrayList<>();
    private static int asked;

    public static void main(String[] args) throws Exception {
        String readme = Files.readString(Path.of("README.md"));
        playShownCalls(readme);
        lookAtTable(readme);
        for (String complaint : complaints) System.out.println(complaint);
        System.out.println(asked + " calls of README.md, " + complaints.size() + " complaints");
        if (asked == 0 || !complaints.isEmpty()) System.exit(1);
    }

    /** What the shown program says to its answers. */
    public static void due(int got, int want, String call) {
        asked++;
        if (got != want) complaints.add(call + " answers " + got + ", README.md says " + want);
    }

    /** The shown lines become a program that is compiled and run, so that they hold as they stand. */
    private static void playShownCalls(String readme) throws Exception {
        StringBuilder program = new StringBuilder("public class Shown { public static void play() {\n");
        for (String line : shownLines(readme)) {
            Matcher m = ANSWERED.matcher(line.trim());
            if (m.matches()) program.append("ReadmeTest.due(").append(m.group(1)).append(", ").append(m.group(2))
                .append(", \"").append(m.group(1)).append("\");\n");
            else program.append(line).append('\n');
        }
        program.append("} }\n");
        Path dir = Files.createTempDirectory("readme");
        Path source = dir.resolve("Shown.java");
        Path made = dir.resolve("Shown.class");
        try {
            Files.writeString(source, program);
            int code = ToolProvider.getSystemJavaCompiler().run(null, null, null, "-proc:none", "-cp",
                System.getProperty("java.class.path"), "-d", dir.toString(), source.toString());
            if (code != 0) complaints.add("the calls that README.md shows do not compile");
            else play(dir);
        } finally {
            Files.deleteIfExists(made);
            Files.deleteIfExists(source);
            Files.deleteIfExists(dir);
        }
    }

    private static void play(Path dir) throws Exception {
        try (URLClassLoader loader = new URLClassLoader(new URL[] {dir.toUri().toURL()}, ReadmeTest.class.getClassLoader())) {
            loader.loadClass("Shown").getMethod("play").invoke(null);
        }
    }

    private static String[] shownLines(String readme) {
        int from = readme.indexOf("```java");
        int to = readme.indexOf("```", from + 3);
        return from < 0 || to < 0 ? new String[0] : readme.substring(from + "```java".length(), to).split("\n");
    }

    private static void lookAtTable(String readme) {
        String table = String.join("\n", readme.lines().filter(line -> line.startsWith("| ")).toList());
        String calls = table.substring(Math.max(0, table.indexOf("| about")));
        for (Method m : PeaceRing.class.getDeclaredMethods()) {
            if (!Modifier.isPublic(m.getModifiers())) continue;
            int times = calls.split("`" + m.getName() + "`", -1).length - 1;
            if (times != 1) complaints.add("the table of README.md names " + m.getName() + " " + times + " times");
        }
    }
}
