/** Promises 10 to 14: FAULTS, TOWNS, MEMBERS, ROOMS, MARKS. */
public final class TownTest {
    private static final Check c = new Check();

    public static void main(String[] args) {
        faults();
        faultRefused();
        town();
        townAnew();
        member();
        kindsOfFeeling();
        room();
        mark();
        markRefused();
        c.end();
    }

    private static void fault(String text, int want) {
        FeltCold x = new FeltCold();
        Check.write(x, 2, text);
        c.due("fault of \"" + text + "\"", x.fault(2), want);
        if (want != FeltCold.NONE) {
            c.due("town of \"" + text + "\"", x.town(2), FeltCold.STATE);
            c.due("count(0) of \"" + text + "\"", x.count(0), 0);
        }
    }

    private static void faults() {
        fault("", 0);
        fault("   ", 3);
        fault("r", 1);
        fault("r1", 2);
        fault("r15", 3);
        fault("r150", 4);
        fault("r1501", 5);
        fault("r1501  ", 7);
        fault("r1501o", 6);
        fault("r1501o1", 7);
        fault("r1501o15", 8);
        fault("r1501o150", 9);
        fault("r1501o1500", FeltCold.NONE);
        fault("  r1501   o1500  ", FeltCold.NONE);
        fault("r3131o1500", 1);
        fault("r3031o1500", FeltCold.NONE);
        fault("r0001o0000", FeltCold.NONE);
        fault("r9931o1500", 1);
        fault("r4", 2);
        fault("r4x", 2);
        fault("r1x01o1500", 2);
        fault("rx501o1500", 1);
        fault("r1500o1500", 3);
        fault("r1532o1500", 3);
        fault("r15 01o1500", 3);
        fault("r150 1o1500", 4);
        fault("r1501o3100", 6);
        fault("r1501o3000", FeltCold.NONE);
        fault("r1501o1 00", 7);
        fault("r1501o15x0", 8);
        fault("r1501o1590", FeltCold.NONE);
        fault("r1501o1501", 9);
        fault("r1501r1501o1501", FeltCold.NONE);
        fault("r1501r1501o1502", 14);
        fault("r1501o150x", 9);
        fault("o1500", 0);
        fault(" x", 1);
        fault("r1501x", 5);
        fault("r1501o1500x", 10);
        fault("r1501o1500 r1501", 11);
        fault("R1501o1500", 0);
        fault("r1501O1500", 5);
        fault("r1501 5", 6);
        String rooms = "r1501r1501r1501r1501";
        fault(rooms + "o1503", FeltCold.NONE);
        fault(rooms + " r1501o1503", 21);
        fault(rooms + "o1504", 24);
        String six = "o1500s1500t1500m1500f1500a1500";
        fault("r1501" + six, FeltCold.NONE);
        fault("r1501" + six + " ", FeltCold.NONE);
        fault("r1501" + six + "o1500", 35);
        fault("r1501" + six + "  x", 37);
        fault(rooms + six + "          ", FeltCold.NONE);
        fault("r1501\to1500", 5);
    }

    private static void faultRefused() {
        FeltCold x = new FeltCold();
        c.finding("fault of none", x, x.fault(0), 1);
        c.due("fault(4)", x.fault(4), FeltCold.BAD);
        c.due("fault(-1)", x.fault(-1), FeltCold.BAD);
        x.text(0, 1);
        x.put(0, 0, 114 - 256);
        c.due("fault of a sign cut to a byte", x.fault(0), 1);
        x.put(0, 0, 200);
        c.due("fault of a sign below 0", x.fault(0), 0);
    }

    private static void town() {
        FeltCold x = new FeltCold();
        c.finding("town of none", x, x.town(0), 1);
        c.due("town(4)", x.town(4), FeltCold.BAD);
        c.due("town(-1)", x.town(-1), FeltCold.BAD);
        Check.write(x, 0, "r1201 r2031 o1531 s0400 f2201 ");
        c.due("town(0)", x.town(0), 3);
        c.due("count(0)", x.count(0), 3);
        c.due("count(1)", x.count(1), 2);
        c.due("room(0, 0)", x.room(0, 0), 12);
        c.due("room(0, 1)", x.room(0, 1), 1);
        c.due("room(1, 0)", x.room(1, 0), 20);
        c.due("room(1, 1)", x.room(1, 1), 31);
        c.told("member(0, 3)", x, x.member(0, 3), 1, 1);
        x.put(0, 0, 120);
        c.due("a changed TEXT leaves the TOWN", x.room(0, 0), 12);
        c.due("town by a FAULT", x.town(0), FeltCold.STATE);
        c.due("count(0) then", x.count(0), 3);
    }

    private static void townAnew() {
        FeltCold x = Check.town("r1031r2031o1500s1500");
        x.soup();
        x.cold(0);
        x.love(0, 3);
        x.walk(1, 1);
        x.fire(0, 3);
        x.hour();
        x.keep(0);
        x.row(0, 2);
        c.due("count(3)", x.count(3), 6);
        c.due("town anew", x.town(0), 2);
        int[] want = {2, 2, 0, 0, 0, 0, 2, 1, 1, 1, 0};
        for (int what = 0; what < want.length; what++) {
            c.due("town anew, count(" + what + ")", x.count(what), want[what]);
        }
        c.finding("town anew, on(0)", x, x.on(0), 1);
        c.told("town anew, COLD", x, x.member(0, 4), 1, 0);
        c.told("town anew, SHIFT", x, x.member(0, 5), 1, 0);
        c.told("town anew, ROOM", x, x.member(1, 3), 1, 0);
        c.due("town anew, DEGREE", x.room(0, 0), 10);
        c.due("town anew, undo(0)", x.undo(0), 0);
        Check.write(x, 1, "r0905m0790");
        c.due("another town", x.town(1), 1);
        c.due("another town, count(1)", x.count(1), 1);
        c.due("another town, member(1, 0)", x.member(1, 0), FeltCold.BAD);
        c.due("another town, room(1, 0)", x.room(1, 0), FeltCold.BAD);
        c.told("another town, WIDTH", x, x.member(0, 2), 1, 9);
    }

    private static void member() {
        FeltCold x = Check.town("r1231r2031 o1030 s0701 t1141 m0900 f2200 a1871");
        int[][] want = {
            {0, 10, 3, 0, 0, 0, 10, 1},
            {1, 7, 0, 1, 0, 0, 7, 0},
            {2, 11, 4, 1, 0, 0, 11, 0},
            {3, 9, 0, 0, 0, 0, 11, 1},
            {4, 22, 0, 0, 0, 0, 22, 0},
            {5, 18, 7, 1, 0, 0, 20, 1},
        };
        for (int i = 0; i < 6; i++) {
            for (int what = 0; what < 8; what++) {
                c.told("member(" + i + ", " + what + ")", x, x.member(i, what), 1, want[i][what]);
            }
        }
        c.due("member(6, 0)", x.member(6, 0), FeltCold.BAD);
        c.due("member(-1, 0)", x.member(-1, 0), FeltCold.BAD);
        c.due("member(0, 8)", x.member(0, 8), FeltCold.BAD);
        c.due("member(0, -1)", x.member(0, -1), FeltCold.BAD);
        x.cold(0);
        c.told("member(0, 4) with a COLD", x, x.member(0, 4), 1, 2);
        c.told("member(0, 7) with a COLD", x, x.member(0, 7), 1, 0);
        x.hour();
        c.told("member(0, 4) behind an HOUR", x, x.member(0, 4), 1, 1);
        c.told("member(0, 7) behind an HOUR", x, x.member(0, 7), 1, 0);
        x.hour();
        c.told("member(0, 4) behind 2 HOURS", x, x.member(0, 4), 1, 0);
        c.told("member(0, 7) behind 2 HOURS", x, x.member(0, 7), 1, 1);
        x.love(3, -5);
        c.told("member(3, 5)", x, x.member(3, 5), 1, -5);
        c.told("member(3, 6)", x, x.member(3, 6), 1, 6);
        x.soup();
        c.told("member(3, 6) by SOUP", x, x.member(3, 6), 1, 7);
        c.told("member(5, 6) by SOUP", x, x.member(5, 6), 1, 21);
        c.told("member(1, 6) by SOUP", x, x.member(1, 6), 1, 8);
    }

    /** Whether one DOES it at each DEGREE, by heating the ROOM. */
    private static void doing(String text, int love, int want) {
        FeltCold x = Check.town("r1531" + text);
        x.love(0, love);
        int set = 0;
        for (int degree = 0; degree <= 30; degree++) {
            int was = x.fire(0, degree);
            x.member(0, 7);
            set |= x.asked() << degree;
            if (was >= 0) {
                x.undo(x.count(3) - 1);
            }
        }
        c.due(text + " SHIFTED by " + love + " does it at", set, want);
    }

    private static void kindsOfFeeling() {
        doing("o1250", 0, Check.range(12, 30));
        doing("m1250", 0, Check.range(14, 30));
        doing("a1250", 0, Check.range(14, 30));
        doing("s1250", 0, Check.range(0, 12));
        doing("f1250", 0, Check.range(13, 30));
        doing("t1250", 0, Check.range(12, 17));
        doing("t1200", 0, Check.range(12, 12));
        doing("t2890", 0, Check.range(28, 30));
        doing("t0240", -5, Check.range(0, 1));
        doing("t0020", -5, 0);
        doing("o0000", -5, Check.range(0, 30));
        doing("o3000", 5, 0);
        doing("o2900", 1, Check.range(30, 30));
        doing("s3000", 5, Check.range(0, 30));
        doing("s0000", -1, 0);
        doing("s0000", 0, 1);
        doing("f0000", -1, Check.range(0, 30));
        doing("f3000", 0, 0);
        doing("f2900", 0, Check.range(30, 30));
        doing("m3000", -2, Check.range(30, 30));
    }

    private static void room() {
        FeltCold x = Check.town("r1205r2031r0007 o1000 s0701 t1101 m1500 f1201 a1801");
        int[][] want = {{12, 5, Check.bits(0, 3), Check.bits(0)}, {20, 31, Check.bits(1, 2, 4, 5), Check.bits(4, 5)},
            {0, 7, 0, 0}};
        for (int r = 0; r < 3; r++) {
            for (int what = 0; what < 4; what++) {
                c.due("room(" + r + ", " + what + ")", x.room(r, what), want[r][what]);
            }
        }
        x.cold(0);
        c.due("room(0, 3) with a COLD", x.room(0, 3), 0);
        c.due("room(0, 2) with a COLD", x.room(0, 2), Check.bits(0, 3));
        x.walk(1, 2);
        c.due("room(2, 2) behind a walk", x.room(2, 2), Check.bits(1));
        c.due("room(2, 3) behind a walk", x.room(2, 3), Check.bits(1));
        c.due("room(3, 0)", x.room(3, 0), FeltCold.BAD);
        c.due("room(-1, 0)", x.room(-1, 0), FeltCold.BAD);
        c.due("room(0, 4)", x.room(0, 4), FeltCold.BAD);
        c.due("room(0, -1)", x.room(0, -1), FeltCold.BAD);
        c.due("room() does not change asked()", x.asked(), 0);
    }

    private static void mark() {
        FeltCold x = Check.town("r1205r2031 s0700 f2200 t1500 t0800 m0500 a0500");
        c.due("mark(0, 1)", x.mark(0, 1), 8);
        c.due("mark(1, 1)", x.mark(1, 1), 8);
        c.due("mark(2, 2)", x.mark(2, 2), 1);
        c.due("mark(4, 3)", x.mark(4, 3), 2);
        c.due("mark(5, 3)", x.mark(5, 3), 2);
        c.due("mark(1, 4)", x.mark(1, 4), 0);
        c.due("mark(5, 5)", x.mark(5, 5), 6);
        x.cold(0);
        c.due("mark(0, 1), COLD aside", x.mark(0, 1), 8);
        c.due("mark(1, 4) beside a COLD", x.mark(1, 4), 1);
        x.cold(1);
        c.due("mark(1, 4) with a COLD", x.mark(1, 4), 2);
        c.due("mark(1, 1) with a COLD", x.mark(1, 1), 8);
        x.walk(1, 1);
        c.due("mark(1, 4) alone", x.mark(1, 4), 1);
        x.walk(3, 1);
        c.due("mark(2, 2) alone", x.mark(2, 2), 0);
        x.love(5, 4);
        x.soup();
        c.due("mark(5, 3) by SOUP, SHIFTED", x.mark(5, 3), 3);
        for (int h = 1; h <= 24; h++) {
            x.hour();
            c.due("mark(5, 5) at HOUR " + h, x.mark(5, 5), 6 - h % 6);
            c.due("mark(5, 3) at HOUR " + h, x.mark(5, 3), Math.max(0, 2 + (h < 3 ? 1 : 0) - h / 6));
        }
        FeltCold y = Check.town("r1205r2031 t0700 t2201 t1500 t0800 o1500");
        c.due("mark(2, 2) beside the first", y.mark(2, 2), 2);
        c.due("mark(0, 2)", y.mark(0, 2), 2);
        c.due("mark(1, 2)", y.mark(1, 2), 0);
        c.told("member(5, 6) at HOUR 24", x, x.member(5, 6), 1, 7);
        c.due("mark(4, 3) at HOUR 24", x.mark(4, 3), 2);
    }

    private static void markRefused() {
        FeltCold x = Check.town("r1205 o0700 s0700 t0700 m0700 f0700 a0700");
        boolean[][] is = {
            {false, true, false, false, false, false},
            {false, false, true, false, false, false},
            {false, false, false, true, false, false},
            {false, true, false, false, true, false},
            {false, false, false, true, false, true},
        };
        for (int kind = 1; kind <= 5; kind++) {
            c.finding("a ONE is no " + kind, x, x.mark(0, kind), 3);
            for (int i = 1; i <= 5; i++) {
                if (is[i - 1][kind]) {
                    c.due("a " + i + " is a " + kind, x.mark(i, kind) >= 0 ? 1 : 0, 1);
                } else {
                    c.finding("a " + i + " is no " + kind, x, x.mark(i, kind), 3);
                }
            }
        }
        c.due("mark(1, 0)", x.mark(1, 0), FeltCold.BAD);
        c.due("mark(1, 6)", x.mark(1, 6), FeltCold.BAD);
        c.due("mark(1, -1)", x.mark(1, -1), FeltCold.BAD);
        c.due("mark(6, 1)", x.mark(6, 1), FeltCold.BAD);
        c.due("mark(-1, 1)", x.mark(-1, 1), FeltCold.BAD);
        c.due("findings(3)", x.findings(3), 23);
    }
}
