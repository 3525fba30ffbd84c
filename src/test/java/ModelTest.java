import java.lang.reflect.InvocationTargetException;
import java.lang.reflect.Method;
import java.lang.reflect.Modifier;
import java.util.ArrayList;
import java.util.Arrays;
import java.util.Comparator;
import java.util.List;
import java.util.Random;

/**
 * All promises at once: runs of calls by a fixed seed, each answered as by SlowCold.
 * A refused call (Terms) leaves asked(), upper(), lower(), digest() as they were, since SlowCold leaves them.
 */
public final class ModelTest {
    private static final int RUNS = 4000, CALLS = 70, MOST_WRONG = 20;
    /** An object is used for 512 calls; this leaves enough for a TEXT and the last looks. */
    private static final int MOST_USED = 400;
    private static final Random random = new Random(20261117);
    private static final List<Method> methods = new ArrayList<>();
    private static final List<Method> slowMethods = new ArrayList<>();
    private static final List<String> calls = new ArrayList<>();
    private static int wrong = 0;
    private static int answers = 0;
    private static int used = 0;

    public static void main(String[] args) throws ReflectiveOperationException {
        for (Method m : FeltCold.class.getDeclaredMethods()) {
            if (Modifier.isPublic(m.getModifiers())) {
                methods.add(m);
            }
        }
        methods.sort(Comparator.comparing(Method::getName));
        for (Method m : methods) {
            Method slow = SlowCold.class.getDeclaredMethod(m.getName(), m.getParameterTypes());
            slowMethods.add(slow);
        }
        int[] refused = new int[methods.size()];
        int[] taken = new int[methods.size()];
        for (int k = 0; k < RUNS && wrong < MOST_WRONG; k++) {
            run(refused, taken);
        }
        for (int m = 0; m < methods.size(); m++) {
            if (taken[m] == 0 || refused[m] == 0 && mayRefuse(methods.get(m).getName())) {
                System.out.println(methods.get(m).getName() + ": taken " + taken[m] + ", refused " + refused[m]);
                wrong++;
            }
        }
        System.out.println(answers + " answers, " + wrong + " wrong");
        if (wrong != 0) {
            System.exit(1);
        }
    }

    private static boolean mayRefuse(String name) {
        return !Arrays.asList("asked", "upper", "lower", "finding", "digest", "known").contains(name);
    }

    private static void run(int[] refused, int[] taken) throws ReflectiveOperationException {
        FeltCold x = new FeltCold();
        SlowCold y = new SlowCold();
        calls.clear();
        used = 0;
        if (random.nextInt(20) != 0) {
            write(x, y, random.nextInt(4), townText());
        }
        boolean wild = random.nextInt(4) == 0;
        for (int k = 0; k < CALLS && used < MOST_USED; k++) {
            if (random.nextInt(40) == 0) {
                write(x, y, random.nextInt(4), random.nextBoolean() ? townText() : brokenText());
            }
            if (random.nextInt(8) == 0) {
                writePairs(x, y);
            }
            int m = random.nextInt(methods.size());
            if (methods.get(m).getName().equals("town") && random.nextInt(4) != 0) {
                continue;
            }
            long answer = call(x, y, m, wild);
            if (answer < 0 && answer != FeltCold.NONE) {
                refused[m]++;
            } else {
                taken[m]++;
            }
            compare("asked()", x.asked(), y.asked());
            compare("finding()", x.finding(), y.finding());
            compare("digest()", x.digest(), y.digest());
        }
        for (int f = 1; f <= 5; f++) {
            compare("findings(" + f + ")", x.findings(f), y.findings(f));
        }
        compare("upper()", x.upper(), y.upper());
        compare("lower()", x.lower(), y.lower());
    }

    private static long call(FeltCold x, SlowCold y, int m, boolean wild) throws ReflectiveOperationException {
        Method method = methods.get(m);
        Object[] given = new Object[method.getParameterCount()];
        for (int k = 0; k < given.length; k++) {
            given[k] = argument(method.getName(), k, wild);
        }
        String call = method.getName() + Arrays.toString(given);
        calls.add(call);
        try {
            long got = ((Number) method.invoke(x, given)).longValue();
            long want = ((Number) slowMethods.get(m).invoke(y, given)).longValue();
            compare(call, got, want);
            return want;
        } catch (InvocationTargetException e) {
            wrong++;
            System.out.println(call + " threw " + e.getCause() + "\n  behind " + calls);
            return 0;
        }
    }

    private static int argument(String name, int k, boolean wild) {
        int[] ends = {Integer.MIN_VALUE, Integer.MAX_VALUE, -1, 31, 41, 61, 64, 2147483646, 1 << 16, -6};
        if (random.nextInt(wild ? 3 : 25) == 0) {
            return ends[random.nextInt(ends.length)];
        }
        switch (name + k) {
            case "row1":
                return random.nextInt(6) == 0 ? 40 : random.nextInt(6);
            case "lay1":
            case "at1":
            case "copy1":
            case "copy3":
            case "copy4":
                return random.nextInt(4);
            case "lay2":
                return random.nextInt(30) - 3;
            case "text1":
                return random.nextInt(61);
            case "put1":
                return random.nextInt(50);
            case "put2":
                return "rostmfa0123456789 ".charAt(random.nextInt(18));
            case "spanBy1":
            case "parts0":
                return random.nextInt(random.nextInt(64) + 1);
            case "love1":
                return random.nextInt(11) - 5;
            case "fire1":
            case "alike0":
                return random.nextInt(31);
            case "undo0":
                return random.nextInt(12);
            case "most0":
                return random.nextInt(19);
            case "spreads0":
            case "odds1":
            case "mid1":
                return random.nextInt(13);
            case "soups1":
                return random.nextInt(9);
            case "soups2":
                return random.nextInt(2);
            case "lots0":
                return 1 + random.nextInt(random.nextInt(20) + 1);
            case "lots1":
                return 1 + random.nextInt(2147483646);
            case "count0":
                return random.nextInt(11);
            case "member1":
                return random.nextInt(8);
            default:
                return random.nextInt(5);
        }
    }

    private static void compare(String call, long got, long want) {
        answers++;
        used++;
        if (got != want) {
            wrong++;
            System.out.println(call + " answered " + got + ", the model " + want + "\n  behind " + calls);
        }
    }

    private static void write(FeltCold x, SlowCold y, int t, String text) {
        compare("text", x.text(t, text.length()), y.text(t, text.length()));
        for (int i = 0; i < text.length(); i++) {
            if (text.charAt(i) != ' ') {
                compare("put", x.put(t, i, text.charAt(i)), y.put(t, i, text.charAt(i)));
            }
        }
        calls.add("\"" + text + "\" by TEXT " + t);
        compare("fault of " + text, x.fault(t), y.fault(t));
        compare("town of " + text, x.town(t), y.town(t));
    }

    /** A ROW that may be a record. */
    private static void writePairs(FeltCold x, SlowCold y) {
        int r = random.nextInt(5);
        int n = 2 * random.nextInt(4);
        int below = random.nextBoolean() ? 31 : Math.max(1, y.count(0));
        calls.add("pairs in ROW " + r);
        compare("row", x.row(r, n), y.row(r, n));
        for (int k = 0; k < n; k++) {
            int v = random.nextInt(k % 2 == 0 ? below : 2);
            compare("lay", x.lay(r, k, v), y.lay(r, k, v));
        }
    }

    private static String two(int n) {
        return "" + n / 10 + n % 10;
    }

    /** Blanks, while there is space for them. */
    private static void blanks(StringBuilder text, int most) {
        for (int k = random.nextInt(3); k > 0 && text.length() < most; k--) {
            text.append(' ');
        }
    }

    private static String townText() {
        StringBuilder text = new StringBuilder();
        int rooms = 1 + random.nextInt(4);
        int members = 1 + random.nextInt(6);
        int middle = random.nextInt(31);
        int wide = 1 + random.nextInt(12);
        int due = 5 * (rooms + members);
        for (int k = 0; k < rooms + members; k++) {
            blanks(text, 60 - due + 5 * k);
            int degree = Math.max(0, Math.min(30, middle + random.nextInt(2 * wide + 1) - wide));
            if (k < rooms) {
                text.append('r').append(two(degree)).append(two(1 + random.nextInt(31)));
            } else {
                text.append("ostmfa".charAt(random.nextInt(6))).append(two(degree));
                text.append(random.nextInt(10)).append(random.nextInt(rooms));
            }
        }
        blanks(text, 60);
        return text.toString();
    }

    private static String brokenText() {
        StringBuilder text = new StringBuilder(townText());
        for (int k = random.nextInt(3); k >= 0; k--) {
            int place = random.nextInt(text.length());
            char sign = "rostmfax0123456789 /:".charAt(random.nextInt(21));
            int how = random.nextInt(4);
            if (how == 0) {
                text.setLength(Math.max(1, place));
            } else if (how == 1) {
                text.deleteCharAt(place);
                text.append(' ');
            } else if (how == 2 && text.length() < 60) {
                text.insert(place, sign);
            } else {
                text.setCharAt(place, sign);
            }
        }
        return text.toString();
    }
}
