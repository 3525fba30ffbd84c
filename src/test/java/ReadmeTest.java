import java.io.IOException;
import java.lang.reflect.Method;
import java.lang.reflect.Modifier;
import java.net.URL;
import java.net.URLClassLoader;
import java.nio.file.Files;
import java.nio.file.Path;
import java.util.ArrayList;
import java.util.List;
import java.util.TreeSet;
import java.util.regex.Matcher;
import java.util.regex.Pattern;
import javax.tools.ToolProvider;

/**
 * README.md itself: its Java is compiled and run as it stands there, and each call answers what is said behind it.
 * A call without an answer, or one of the face that README.md does not show, is wrong, too.
 */
public final class ReadmeTest {
    private static final Check c = new Check();
    private static final Path README = Path.of("README.md");
    private static final Pattern BLOCK = Pattern.compile("```java\n(.*?)```", Pattern.DOTALL);
    /** A call, and behind it a number or the name of a constant. */
    private static final Pattern CALL = Pattern.compile("x\\.(\\w+)\\((.*?)\\); +// (-?[0-9]\\w*|[A-Z]+)(:.*)?");
    private static final Pattern OTHER = Pattern.compile("FeltCold x = new FeltCold\\(\\);|write\\(x, .*\\);|");

    private static final StringBuilder members = new StringBuilder();
    private static final StringBuilder statements = new StringBuilder();
    private static final List<String> lines = new ArrayList<>();
    private static final TreeSet<String> shown = new TreeSet<>();

    private ReadmeTest() {
    }

    public static void main(String[] args) throws IOException, ReflectiveOperationException {
        String readme = Files.readString(README);
        Matcher block = BLOCK.matcher(readme);
        while (block.find()) {
            if (block.group(1).startsWith("static ")) {
                members.append(block.group(1));
            } else {
                block.group(1).lines().forEach(ReadmeTest::read);
            }
        }
        for (Method m : FeltCold.class.getDeclaredMethods()) {
            if (Modifier.isPublic(m.getModifiers())) {
                c.due("README.md shows " + m.getName() + "()", shown.contains(m.getName()) ? 1 : 0, 1);
            }
        }
        commands(readme);
        calls();
        c.end();
    }

    private static void read(String line) {
        Matcher call = CALL.matcher(line);
        if (call.matches()) {
            shown.add(call.group(1));
            String answer = call.group(3);
            String due = answer.matches("[A-Z]+") ? "FeltCold." + answer : answer + "L";
            statements.append("answers.add(new long[] {x.").append(call.group(1)).append('(').append(call.group(2))
                .append("), ").append(due).append("});\n");
            lines.add(line);
        } else {
            c.due("README.md can be read at: " + line, OTHER.matcher(line).matches() ? 1 : 0, 1);
            statements.append(line).append('\n');
        }
    }

    /** What README.md tells to run is there, and can be run. */
    private static void commands(String readme) {
        Matcher block = Pattern.compile("```sh\n(.*?)```", Pattern.DOTALL).matcher(readme);
        int found = 0;
        while (block.find()) {
            for (String command : block.group(1).split("\n")) {
                found++;
                c.due("README.md tells to run " + command, Files.isExecutable(Path.of(command)) ? 1 : 0, 1);
            }
        }
        c.due("README.md tells how to run the tests", found > 0 ? 1 : 0, 1);
    }

    private static void calls() throws IOException, ReflectiveOperationException {
        List<?> answers = answers("import java.util.ArrayList;\nimport java.util.List;\n"
            + "public final class Shown {\n" + members
            + "public static List<long[]> run() {\nList<long[]> answers = new ArrayList<>();\n" + statements
            + "return answers;\n}\n}\n");
        c.due("calls that were made", answers.size(), lines.size());
        for (int k = 0; k < answers.size(); k++) {
            long[] answer = (long[]) answers.get(k);
            c.due("README.md: " + lines.get(k), answer[0], answer[1]);
        }
    }

    /** Compiles a class, runs it and takes both of its files away again. */
    private static List<?> answers(String source) throws IOException, ReflectiveOperationException {
        Path work = Files.createTempDirectory("readme");
        Path file = Files.writeString(work.resolve("Shown.java"), source);
        try {
            String classes = System.getProperty("java.class.path");
            int failed = ToolProvider.getSystemJavaCompiler().run(null, null, null, "-cp", classes, "-d",
                work.toString(), file.toString());
            c.due("the Java of README.md is compiled", failed, 0);
            if (failed != 0) {
                return List.of();
            }
            try (URLClassLoader loader = new URLClassLoader(new URL[] {work.toUri().toURL()})) {
                return (List<?>) loader.loadClass("Shown").getMethod("run").invoke(null);
            }
        } finally {
            Files.deleteIfExists(work.resolve("Shown.class"));
            Files.deleteIfExists(file);
            Files.deleteIfExists(work);
        }
    }
}
