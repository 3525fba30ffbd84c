import java.lang.reflect.InvocationTargetException;
import java.lang.reflect.Method;
import java.util.Comparator;
import java.util.List;
import java.util.stream.Stream;

/** Runs the cases of a class: its methods named pNN_.. (of promise NN) or terms_.., each with a Case of its own. */
final class Cases {
    private Cases() {
    }

    static boolean isCase(Method m) {
        return m.getName().matches("(p\\d\\d|terms)_[A-Za-z]\\w*");
    }

    static List<Method> of(Class<?> tests) {
        return Stream.of(tests.getDeclaredMethods()).filter(Cases::isCase)
            .sorted(Comparator.comparing(Method::getName)).toList();
    }

    static void run(Class<?> tests) throws IllegalAccessException {
        int cases = 0;
        int answers = 0;
        int wrong = 0;
        for (Method m : of(tests)) {
            Case c = new Case(m.getName());
            try {
                m.setAccessible(true);
                m.invoke(null, c);
            } catch (InvocationTargetException e) {
                wrong++;
                System.out.println(m.getName() + " threw " + e.getCause());
            }
            if (c.asked() == 0) {
                wrong++;
                System.out.println(m.getName() + " asked nothing");
            }
            cases++;
            answers += c.asked();
            wrong += c.wrong();
        }
        System.out.println(cases + " cases, " + answers + " answers, " + wrong + " wrong");
        if (wrong != 0 || cases == 0) {
            System.exit(1);
        }
    }
}
