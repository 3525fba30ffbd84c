import java.io.IOException;
import java.lang.reflect.Method;
import java.nio.file.Files;
import java.nio.file.Path;
import java.util.ArrayList;
import java.util.List;
import java.util.Locale;
import java.util.TreeSet;
import java.util.regex.Matcher;
import java.util.regex.Pattern;

/** Each promise of ../shared/DOC.md has cases of its own, one at least for each way to be refused that it names. */
public final class EdgesListTest {
    private static final Check c = new Check();
    private static final int PROMISES = 48, LEAST_CASES = 4;
    private static final String[] ANSWERS = {"BAD", "STATE", "FULL", "NOTHING", "BEYOND", "SIZE", "UNLIKE", "NOUGHT",
        "NONE"};
    private static final Class<?>[] TESTS = {EdgesTermsTest.class, EdgesRowsTest.class, EdgesTownTest.class,
        EdgesDeedsTest.class, EdgesWarmTest.class, EdgesRecordsTest.class, EdgesToldTest.class};

    public static void main(String[] args) throws IOException {
        List<String> names = names();
        c.due("each name is there once", new TreeSet<>(names).size(), names.size());
        Pattern heading = Pattern.compile("## Promise (\\d+): ([^\n]+)\n(.*?)(?=\n## )", Pattern.DOTALL);
        Matcher promise = heading.matcher(Files.readString(Path.of("../shared/DOC.md")));
        int promises = 0;
        while (promise.find()) {
            promises++;
            String call = promise.group(2).equals("A new object") ? "new" : promise.group(2);
            look(names, String.format("p%02d_%s_", Integer.parseInt(promise.group(1)), call), promise.group(3));
        }
        c.due("promises", promises, PROMISES);
        for (String name : names) {
            c.due(name + " is of a promise or of the terms", name.matches("(p\\d\\d|terms)_[a-z]\\w*_\\w+") ? 1 : 0, 1);
        }
        c.end();
    }

    private static List<String> names() {
        List<String> names = new ArrayList<>();
        for (Class<?> tests : TESTS) {
            for (Method m : Cases.of(tests)) {
                names.add(m.getName());
            }
        }
        return names;
    }

    private static void look(List<String> names, String ahead, String text) {
        List<String> own = names.stream().filter(name -> name.startsWith(ahead)).toList();
        c.due(ahead + ".. has cases enough", own.size() >= LEAST_CASES ? 1 : 0, 1);
        for (String answer : ANSWERS) {
            if (text.matches("(?s).*\\b" + answer + "\\b.*")) {
                boolean has = own.stream().anyMatch(name -> name.toUpperCase(Locale.ROOT).contains(answer));
                c.due(ahead + ".. has a case for " + answer, has ? 1 : 0, 1);
            }
        }
    }
}
