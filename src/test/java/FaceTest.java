import java.io.IOException;
import java.lang.reflect.Constructor;
import java.lang.reflect.Field;
import java.lang.reflect.Method;
import java.lang.reflect.Modifier;
import java.nio.file.Files;
import java.nio.file.Path;
import java.util.Arrays;
import java.util.TreeSet;

/** The public face of the document, and those rules of LANGUAGE.md that can be looked up in the file. */
public final class FaceTest {
    private static final Check c = new Check();
    private static final String[] FACE = {
        "int row(int,int)", "int lay(int,int,int)", "int at(int,int)", "int tear(int)", "int copy(int,int,int,int,int)",
        "int mean(int)", "int text(int,int)", "int put(int,int,int)", "int fault(int)", "int town(int)",
        "int member(int,int)", "int room(int,int)", "int mark(int,int)", "int walk(int,int)", "int hour()",
        "int soup()", "int cold(int)", "int love(int,int)", "int fire(int,int)", "int undo(int)", "int keep(int)",
        "int on(int)", "int span(int)", "int spanBy(int,int)", "int known()", "int box(int,int)", "int send(int)",
        "int most(int)", "int parts(int)", "int fewest()", "int alike(int)", "int fits(int)", "int tickled(int)",
        "int shifts(int,int)", "int kinds(int,int)", "int spreads(int)", "int soups(int,int,int)", "int odds(int,int)",
        "int mid(int,int)", "int lots(int,int)", "int asked()", "long upper()", "long lower()", "int count(int)",
        "int finding()", "int findings(int)", "long digest()",
    };

    public static void main(String[] args) throws IOException, IllegalAccessException {
        constants();
        methods();
        classesInside();
        source();
        c.end();
    }

    private static void constants() throws IllegalAccessException {
        String[] names = {"BAD", "FULL", "FINDING", "STATE", "SPENT", "NONE"};
        int[] values = {-1, -2, -3, -4, -6, -9};
        int open = 0;
        for (Field f : FeltCold.class.getDeclaredFields()) {
            if (!Modifier.isPrivate(f.getModifiers())) {
                open++;
                int k = Arrays.asList(names).indexOf(f.getName());
                c.due(f + " is of the face", k >= 0 ? 1 : 0, 1);
                c.due(f + " is as told", f.getInt(null), values[Math.max(0, k)]);
                int want = Modifier.PUBLIC | Modifier.STATIC | Modifier.FINAL;
                c.due(f + " is public, static, final", f.getModifiers(), want);
            } else if (Modifier.isStatic(f.getModifiers())) {
                c.due(f + " is final", Modifier.isFinal(f.getModifiers()) ? 1 : 0, 1);
            }
        }
        c.due("open fields", open, names.length);
    }

    private static void methods() {
        TreeSet<String> face = new TreeSet<>(Arrays.asList(FACE));
        TreeSet<String> names = new TreeSet<>();
        TreeSet<String> open = new TreeSet<>();
        for (Method m : FeltCold.class.getDeclaredMethods()) {
            if (!Modifier.isPrivate(m.getModifiers())) {
                c.due(m + " is public alone", m.getModifiers(), Modifier.PUBLIC);
                String types = Arrays.toString(m.getParameterTypes()).replaceAll("[\\[\\] ]", "");
                open.add(m.getReturnType() + " " + m.getName() + "(" + types + ")");
                names.add(m.getName());
            }
        }
        if (!open.equals(face)) {
            System.out.println("open are " + open + ", due are " + face);
        }
        c.due("the face is the document's", open.equals(face) ? 1 : 0, 1);
        for (Method m : FeltCold.class.getDeclaredMethods()) {
            if (Modifier.isPrivate(m.getModifiers())) {
                c.due(m + " bears no public name", names.contains(m.getName()) ? 1 : 0, 0);
            }
        }
        Constructor<?>[] made = FeltCold.class.getDeclaredConstructors();
        c.due("constructors", made.length, 1);
        c.due("the constructor is public", made[0].getModifiers(), Modifier.PUBLIC);
        c.due("its parameters", made[0].getParameterCount(), 0);
        c.due("the class is public, final", FeltCold.class.getModifiers(), Modifier.PUBLIC | Modifier.FINAL);
    }

    private static void classesInside() {
        Class<?>[] inside = FeltCold.class.getDeclaredClasses();
        c.due("some twelve classes at most", inside.length < 12 ? 1 : 0, 1);
        for (Class<?> k : inside) {
            c.due(k + " is static", Modifier.isStatic(k.getModifiers()) ? 1 : 0, 1);
            c.due(k + " is not open", k.getModifiers() & (Modifier.PUBLIC | Modifier.PROTECTED), 0);
            for (Method m : k.getDeclaredMethods()) {
                c.due(m + " takes seven at most", m.getParameterCount() <= 7 ? 1 : 0, 1);
                c.due(m + " bears no public name", isFaceName(m.getName()) ? 1 : 0, 0);
            }
        }
    }

    private static boolean isFaceName(String name) {
        for (String line : FACE) {
            if (line.contains(" " + name + "(")) {
                return true;
            }
        }
        return false;
    }

    private static void source() throws IOException {
        Path file = Path.of("src/main/java/FeltCold.java");
        String text = Files.readString(file).replaceAll("(?s)/\\*.*?\\*/", "").replaceAll("//[^\n]*", "");
        String[] words = {"throw", "throws", "try", "catch", "synchronized", "assert", "package", "Object", "native",
            "volatile", "Exact"};
        for (String word : words) {
            c.due("the word " + word, text.matches("(?s).*\\b\\w*" + word + "\\b.*") ? 1 : 0, 0);
        }
        for (String sign : new String[] {"->", "::", "@", "while (true)"}) {
            c.due("the sign " + sign, text.contains(sign) ? 1 : 0, 0);
        }
        int lines = 0;
        for (String line : text.split("\n")) {
            lines++;
            if (line.contains("import ")) {
                c.due(line, line.equals("import java.util.Arrays;") ? 1 : 0, 1);
            }
            if (line.contains("new ")) {
                // What is made is made with the object, so that no call needs room.
                c.due(line, line.matches("\\s+private final .* = new .*;") ? 1 : 0, 1);
            }
        }
        c.due("the file was read", lines > 500 ? 1 : 0, 1);
    }
}
