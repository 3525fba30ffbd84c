/** Promises 33 to 38: records, COLDS that go round, least SOUP. */
public final class RecordsTest {
    private static final Check c = new Check();
    private static final int ALL = Integer.MAX_VALUE;

    public static void main(String[] args) {
        fits();
        tickled();
        recordsRefused();
        shifts();
        kinds();
        daysRefused();
        spreads();
        soups();
        c.end();
    }

    private static void fits() {
        FeltCold x = Check.town("r1231r0031 o1000 s1501 t1821");
        Check.lay(x, 0);
        c.told("fits: nothing said", x, x.fits(0), ALL, 31);
        Check.lay(x, 0, 0, 1);
        c.told("fits: 0 did", x, x.fits(0), Check.range(10, 30), 21);
        Check.lay(x, 0, 0, 1, 1, 1);
        c.told("fits: 0, 1 did", x, x.fits(0), Check.range(10, 15), 6);
        Check.lay(x, 0, 2, 0, 1, 0);
        c.told("fits: 1, 2 did not", x, x.fits(0), Check.range(16, 17) | Check.range(21, 30), 12);
        Check.lay(x, 0, 0, 1, 0, 1);
        c.told("fits: twice", x, x.fits(0), Check.range(10, 30), 21);
        Check.lay(x, 0, 0, 1, 0, 0);
        c.told("fits: both ways", x, x.fits(0), 0, 0);
        x.cold(2);
        Check.lay(x, 0, 2, 1);
        c.told("fits: COLD aside", x, x.fits(0), Check.range(18, 20), 3);
        x.soup();
        c.told("fits: as they FEEL now", x, x.fits(0), Check.range(19, 21), 3);
        Check.lay(x, 0, 2, 1, 2, 1, 2, 1, 2, 1, 2, 1, 2, 1, 2, 1, 2, 1, 2, 1, 2, 1, 2, 1, 2, 1, 2, 1, 2, 1, 2, 1, 2, 1,
            2, 1, 2, 1, 2, 1, 0, 0);
        c.told("fits: 20 pairs", x, x.fits(0), 0, 0);
    }

    private static void tickled() {
        FeltCold x = Check.town("r1231r0031 o1000 s0501 t1821");
        Check.lay(x, 0);
        c.due("tickled: nothing said", x.tickled(0), 0);
        Check.lay(x, 0, 0, 1);
        c.due("tickled: one", x.tickled(0), 1);
        Check.lay(x, 0, 0, 1, 1, 1);
        c.due("tickled: either of two", x.tickled(0), 3);
        Check.lay(x, 0, 0, 1, 1, 1, 2, 1);
        c.due("tickled: one of three", x.tickled(0), 2);
        Check.lay(x, 0, 0, 1, 0, 1, 1, 1);
        c.due("tickled: just one pair of his", x.tickled(0), 2);
        Check.lay(x, 0, 0, 1, 0, 0);
        c.due("tickled: he himself", x.tickled(0), 1);
        Check.lay(x, 0, 0, 1, 0, 1, 1, 1, 1, 1);
        c.due("tickled: by none", x.tickled(0), 0);
        x.cold(0);
        Check.lay(x, 0, 0, 1, 1, 1, 2, 1);
        c.due("tickled: COLD aside", x.tickled(0), 2);
        c.due("tickled() does not change the ROW", x.at(0, 3) + x.asked(), 2);
    }

    private static void recordsRefused() {
        FeltCold none = new FeltCold();
        c.due("fits(6) of none", none.fits(6), FeltCold.BAD);
        c.due("fits(0) of none", none.fits(0), FeltCold.STATE);
        c.due("tickled(6) of none", none.tickled(6), FeltCold.BAD);
        c.due("tickled(0) of none", none.tickled(0), FeltCold.STATE);
        FeltCold x = Check.town("r1231 o1000 s0500");
        c.due("fits(-1)", x.fits(-1), FeltCold.BAD);
        c.due("tickled(-1)", x.tickled(-1), FeltCold.BAD);
        int[][] wrong = {{2, 0}, {-1, 0}, {0, 2}, {0, -1}, {0, 1, 2, 1}, {0, 1, 1, Integer.MIN_VALUE}};
        c.finding("fits of no ROW", x, x.fits(0), 1);
        c.finding("tickled of no ROW", x, x.tickled(0), 1);
        Check.lay(x, 0, 9, 9, 9);
        c.finding("fits: not by pairs", x, x.fits(0), 5);
        c.finding("tickled: not by pairs", x, x.tickled(0), 5);
        for (int[] row : wrong) {
            Check.lay(x, 0, row);
            c.finding("fits: unlike", x, x.fits(0), 3);
            c.finding("tickled: unlike", x, x.tickled(0), 3);
        }
    }

    private static void shifts() {
        FeltCold x = Check.town("r1231 o1000 s1500 t1520 f1000 m1000 a1000");
        Check.lay(x, 0);
        c.due("shifts: nothing said", x.shifts(0, 0), 2047);
        Check.lay(x, 0, 10, 1);
        c.due("shifts(0): at 10", x.shifts(0, 0), Check.range(0, 5));
        c.due("shifts(4): at 10", x.shifts(4, 0), Check.range(0, 3));
        Check.lay(x, 0, 10, 0);
        c.due("shifts(0): not at 10", x.shifts(0, 0), Check.range(6, 10));
        c.due("shifts(3): not at 10", x.shifts(3, 0), Check.range(5, 10));
        Check.lay(x, 0, 13, 0, 12, 1);
        c.due("shifts(1): up to 12", x.shifts(1, 0), Check.bits(2));
        c.due("shifts(0): by none", x.shifts(0, 0), 0);
        Check.lay(x, 0, 15, 1, 18, 0);
        c.due("shifts(2): a TWIN", x.shifts(2, 0), Check.range(3, 5));
        x.love(2, 5);
        x.cold(2);
        c.due("shifts(2): SHIFT, COLD aside", x.shifts(2, 0), Check.range(3, 5));
        x.soup();
        c.due("shifts(2): by SOUP", x.shifts(2, 0), Check.range(2, 4));
        Check.lay(x, 0, 30, 0, 0, 1);
        c.due("shifts(1): at the ends", x.shifts(1, 0), 2047);
        for (int h = 0; h < 12; h++) {
            x.hour();
        }
        Check.lay(x, 0, 10, 1);
        c.due("shifts(5): drifted", x.shifts(5, 0), Check.range(0, 5));
        c.due("shifts(4): not drifted", x.shifts(4, 0), Check.range(0, 3));
    }

    private static void kinds() {
        FeltCold x = Check.town("r1231 o1030 s1500");
        Check.lay(x, 0);
        c.due("kinds: nothing said", x.kinds(0, 0), 63);
        Check.lay(x, 0, 10, 1);
        c.due("kinds(0): at 10", x.kinds(0, 0), Check.bits(0, 1, 2));
        Check.lay(x, 0, 10, 0, 11, 1);
        c.due("kinds(0): from 11 on", x.kinds(0, 0), Check.bits(4));
        Check.lay(x, 0, 11, 0, 12, 1, 14, 1);
        c.due("kinds(0): from 12 on", x.kinds(0, 0), Check.bits(3, 5));
        Check.lay(x, 0, 13, 1, 14, 0);
        c.due("kinds(0): up to 13", x.kinds(0, 0), Check.bits(2));
        x.love(0, 3);
        c.due("kinds(0): SHIFTED", x.kinds(0, 0), Check.bits(1));
        x.cold(0);
        x.soup();
        c.due("kinds(0): by SOUP, COLD aside", x.kinds(0, 0), 0);
        Check.lay(x, 0, 14, 1, 15, 0);
        c.due("kinds(0): SHIFTED, by SOUP", x.kinds(0, 0), Check.bits(1));
        for (int h = 0; h < 6; h++) {
            x.hour();
        }
        Check.lay(x, 0, 14, 1, 13, 0);
        c.due("kinds(0): at HOUR 6", x.kinds(0, 0), Check.bits(4, 5));
    }

    private static void daysRefused() {
        FeltCold none = new FeltCold();
        c.due("shifts(0, 0) of none", none.shifts(0, 0), FeltCold.BAD);
        c.due("kinds(0, 0) of none", none.kinds(0, 0), FeltCold.BAD);
        FeltCold x = Check.town("r1231 o1000 s0500");
        int[][] bad = {{2, 0}, {-1, 0}, {0, 6}, {0, -1}};
        for (int[] call : bad) {
            c.due("shifts, BAD", x.shifts(call[0], call[1]), FeltCold.BAD);
            c.due("kinds, BAD", x.kinds(call[0], call[1]), FeltCold.BAD);
        }
        c.finding("shifts by no ROW", x, x.shifts(0, 0), 1);
        c.finding("kinds by no ROW", x, x.kinds(0, 0), 1);
        Check.lay(x, 0, 99, 99, 99);
        c.finding("shifts: not by pairs", x, x.shifts(0, 0), 5);
        c.finding("kinds: not by pairs", x, x.kinds(0, 0), 5);
        int[][] wrong = {{31, 0}, {-1, 0}, {0, 2}, {0, -1}, {30, 1, 31, 1}, {Integer.MAX_VALUE, 0}};
        for (int[] row : wrong) {
            Check.lay(x, 0, row);
            c.finding("shifts: unlike", x, x.shifts(0, 0), 3);
            c.finding("kinds: unlike", x, x.kinds(0, 0), 3);
        }
    }

    private static void spreads() {
        FeltCold x = Check.town("r1231r0031 o1000 s1500 t1520 f1001 m1001 a1001");
        c.told("spreads(12): nobody", x, x.spreads(12), 0, 0);
        x.cold(3);
        c.told("spreads(0)", x, x.spreads(0), 8, 8);
        c.told("spreads(1)", x, x.spreads(1), Check.bits(3, 4, 5), Check.bits(3, 4, 5));
        c.told("spreads(2)", x, x.spreads(2), Check.bits(4, 5), Check.bits(3, 4, 5));
        c.told("spreads(3)", x, x.spreads(3), Check.bits(3), Check.bits(3, 4, 5));
        c.told("spreads(12)", x, x.spreads(12), Check.bits(3), Check.bits(3, 4, 5));
        c.due("spreads() passes no HOUR", x.count(2) + x.count(3), 1);
        c.told("COLD as it was", x, x.member(3, 4), 1, 2);
        x.walk(3, 0);
        c.told("spreads(1) behind a walk", x, x.spreads(1), 15, 15);
        FeltCold y = Check.town("r1231r0031 o1000 s1501");
        y.cold(0);
        c.told("spreads(2), alone", y, y.spreads(2), 0, 1);
        c.told("spreads(12), alone", y, y.spreads(12), 0, 1);
        c.due("spreads(13)", y.spreads(13), FeltCold.BAD);
        c.due("spreads(-1)", y.spreads(-1), FeltCold.BAD);
        y.hour();
        y.hour();
        c.told("spreads(0) behind a COLD that is over", y, y.spreads(0), 0, 0);
        c.due("spreads(0) of none", new FeltCold().spreads(0), FeltCold.STATE);
        c.due("spreads(13) of none", new FeltCold().spreads(13), FeltCold.BAD);
    }

    private static void soups() {
        FeltCold x = Check.town("r1031 o1000 s0900 t1000 f1000 o1500");
        c.told("soups(0, 0, 1)", x, x.soups(0, 0, 1), 0, 0);
        c.told("soups(0, 8, 1)", x, x.soups(0, 8, 1), 0, 0);
        c.told("soups(0, 1, 0)", x, x.soups(0, 1, 0), 1, 1);
        c.told("soups(0, 3, 0)", x, x.soups(0, 3, 0), 1, 1);
        c.told("soups(0, 4, 0)", x, x.soups(0, 4, 0), 2, 3);
        c.told("soups(1, 7, 1)", x, x.soups(1, 7, 1), 3, Check.bits(0, 1, 4));
        c.told("soups(2, 8, 0)", x, x.soups(2, 8, 0), 3, Check.bits(0, 2, 5));
        c.told("soups(2, 8, 1)", x, x.soups(2, 8, 1), 0, 0);
        c.due("soups(3, 8, 1)", x.soups(3, 8, 1), FeltCold.NONE);
        c.due("NONE: asked()", x.asked(), 0);
        c.due("soups(4, 1, 1)", x.soups(4, 1, 1), FeltCold.NONE);
        x.cold(0);
        c.told("soups(0, 3, 1), COLD aside", x, x.soups(0, 3, 1), 0, 0);
        x.soup();
        c.due("soups(0, 1, 1) with SOUP", x.soups(0, 1, 1), FeltCold.NONE);
        c.told("soups(0, 3, 0) with SOUP", x, x.soups(0, 3, 0), 0, 0);
        c.told("soups(0, 4, 0) with SOUP", x, x.soups(0, 4, 0), 1, Check.bits(1));
        x.hour();
        c.told("soups(0, 5, 0) with less SOUP", x, x.soups(0, 5, 0), 1, Check.bits(2));
        c.due("soups() serves nothing", x.count(3), 3);
        x.undo(0);
        x.love(0, 1);
        c.told("soups(0, 4, 0), SHIFTED", x, x.soups(0, 4, 0), 0, 0);
        x.love(0, -1);
        c.told("soups(0, 4, 1), SHIFTED", x, x.soups(0, 4, 1), 0, 0);
        c.due("soups(0, 4, 0), SHIFTED", x.soups(0, 4, 0), FeltCold.NONE);
        FeltCold y = Check.town("r1031 a0900");
        y.hour();
        c.told("soups(0, 8, 0) of an OLD one", y, y.soups(0, 8, 0), 1, Check.bits(5));
        c.due("soups(1, 0, 0)", y.soups(1, 0, 0), FeltCold.BAD);
        c.due("soups(-1, 0, 0)", y.soups(-1, 0, 0), FeltCold.BAD);
        c.due("soups(0, 9, 0)", y.soups(0, 9, 0), FeltCold.BAD);
        c.due("soups(0, -1, 0)", y.soups(0, -1, 0), FeltCold.BAD);
        c.due("soups(0, 0, 2)", y.soups(0, 0, 2), FeltCold.BAD);
        c.due("soups(0, 0, -1)", y.soups(0, 0, -1), FeltCold.BAD);
        c.due("soups(0, 0, 0) of none", new FeltCold().soups(0, 0, 0), FeltCold.STATE);
        c.due("soups(9, 9, 9) of none", new FeltCold().soups(9, 9, 9), FeltCold.STATE);
    }
}
