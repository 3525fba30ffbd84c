/** What all tests use: compares answers, writes TEXTS, ends with exit code 1 if an answer was wrong. */
class Check {
    private final String ahead;
    private int wrong = 0;
    private int asked = 0;

    Check() {
        this("");
    }

    /** What stands ahead of each wrong answer. */
    Check(String ahead) {
        this.ahead = ahead;
    }

    void due(String call, long got, long want) {
        asked++;
        if (got != want) {
            wrong++;
            System.out.println(ahead + call + " answered " + got + ", due is " + want);
        }
    }

    int asked() {
        return asked;
    }

    int wrong() {
        return wrong;
    }

    /** An answer, and what asked() tells behind it. */
    void told(String call, FeltCold x, int got, int want, int told) {
        due(call, got, want);
        due(call + " then asked()", x.asked(), told);
    }

    /** A refusal by a FINDING, and which one. */
    void finding(String call, FeltCold x, int got, int which) {
        due(call, got, FeltCold.FINDING);
        due(call + " then finding()", x.finding(), which);
    }

    void chance(String call, FeltCold x, int got, long upper, long lower) {
        due(call, got, 1);
        due(call + " then upper()", x.upper(), upper);
        due(call + " then lower()", x.lower(), lower);
    }

    void end() {
        System.out.println(asked + " answers, " + wrong + " wrong");
        if (wrong != 0 || asked == 0) {
            System.exit(1);
        }
    }

    static void write(FeltCold x, int t, String text) {
        x.text(t, text.length());
        for (int i = 0; i < text.length(); i++) {
            if (text.charAt(i) != ' ') {
                x.put(t, i, text.charAt(i));
            }
        }
    }

    /** A new object with a TOWN by TEXT 0. */
    static FeltCold town(String text) {
        FeltCold x = new FeltCold();
        write(x, 0, text);
        if (x.town(0) < 1) {
            throw new IllegalStateException("no town: " + text);
        }
        return x;
    }

    /** ROW r anew with these places. */
    static void lay(FeltCold x, int r, int... places) {
        x.row(r, places.length);
        for (int i = 0; i < places.length; i++) {
            x.lay(r, i, places[i]);
        }
    }

    /** The bits of these numbers. */
    static int bits(int... numbers) {
        int set = 0;
        for (int n : numbers) {
            set |= 1 << n;
        }
        return set;
    }

    /** The bits from one number on to another. */
    static int range(int from, int to) {
        int set = 0;
        for (int n = from; n <= to; n++) {
            set |= 1 << n;
        }
        return set;
    }
}
