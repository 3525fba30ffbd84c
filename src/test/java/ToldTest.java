import java.math.BigInteger;

/** Promises 39 to 48: chances, lots, what is told. */
public final class ToldTest {
    private static final Check c = new Check();

    public static void main(String[] args) {
        odds();
        mid();
        lots();
        lotsRefused();
        asked();
        upperAndLower();
        count();
        findings();
        digest();
        c.end();
    }

    private static void odds() {
        FeltCold x = Check.town("r1231r2031r0531 o1000 o1500 s1601 s0701");
        c.chance("odds(2, 5): nobody", x, x.odds(2, 5), 1, 1);
        // Of four ways that two ONES seem to do it, just "the one of 15 does, the one of 10 does not" is by none.
        c.chance("odds(0, 3)", x, x.odds(0, 3), 15, 16);
        c.chance("odds(0, 6)", x, x.odds(0, 6), 3, 4);
        c.chance("odds(0, 0)", x, x.odds(0, 0), 1, 1);
        c.chance("odds(0, 12)", x, x.odds(0, 12), 0, 1);
        // In ROOM 1 none does it; just the SNEEZER of 7 alone can't.
        c.chance("odds(1, 1)", x, x.odds(1, 1), 133, 144);
        c.chance("odds(1, 12)", x, x.odds(1, 12), 1, 1);
        x.cold(2);
        c.chance("odds(1, 2) with a COLD", x, x.odds(1, 2), 5, 6);
        c.due("odds(0, 13)", x.odds(0, 13), FeltCold.BAD);
        c.due("odds(0, -1)", x.odds(0, -1), FeltCold.BAD);
        c.due("odds(3, 0)", x.odds(3, 0), FeltCold.BAD);
        c.due("odds(-1, 0)", x.odds(-1, 0), FeltCold.BAD);
        c.due("refused: upper()", x.upper(), 5);
        c.due("refused: lower()", x.lower(), 6);
        FeltCold y = Check.town("r1231 o1000o1100o1200o1300o1400o1500");
        long all = 2985984;
        for (int p = 0; p <= 12; p++) {
            long ways = waysOfSix(p);
            long common = BigInteger.valueOf(ways).gcd(BigInteger.valueOf(all)).longValue();
            c.chance("odds(0, " + p + "): all six", y, y.odds(0, p), ways / common, all / common);
        }
    }

    /** Six ONES of 10 .. 15 at 12: by so many of 12 to the sixth ways they seem to do it from one of them on. */
    private static long waysOfSix(int p) {
        long sum = 0;
        for (int who = 0; who <= 6; who++) {
            long ways = 1;
            for (int i = 0; i < 6; i++) {
                boolean does = i <= 2;
                boolean seems = i < who;
                ways *= does == seems ? 12 - p : p;
            }
            sum += ways;
        }
        return sum;
    }

    private static void mid() {
        FeltCold x = Check.town("r1231r2031r0531 o1000 o1500 s1601 s0701");
        c.chance("mid(2, 5): nobody", x, x.mid(2, 5), 31, 1);
        // 10 .. 14 as it is; 15 .. 30 if the one of 15 does it, 0 .. 9 if the one of 10 does not.
        c.chance("mid(0, 0)", x, x.mid(0, 0), 5, 1);
        c.chance("mid(0, 12)", x, x.mid(0, 12), 0, 1);
        c.chance("mid(0, 6)", x, x.mid(0, 6), 31, 4);
        c.chance("mid(0, 3)", x, x.mid(0, 3), 5 * 9 + 26 * 3, 16);
        x.cold(0);
        c.chance("mid(0, 3) with a COLD", x, x.mid(0, 3), 15 * 9 + 16 * 3, 16);
        x.cold(1);
        c.chance("mid(0, 3) with COLDS", x, x.mid(0, 3), 31 * 9, 16);
        c.due("mid(0, 13)", x.mid(0, 13), FeltCold.BAD);
        c.due("mid(0, -1)", x.mid(0, -1), FeltCold.BAD);
        c.due("mid(3, 0)", x.mid(3, 0), FeltCold.BAD);
        c.due("mid(-1, 0)", x.mid(-1, 0), FeltCold.BAD);
    }

    private static void lots() {
        String text = "r1231r2031r0531 o1000 o1500 s1601 s0701 a0502";
        int[] seeds = {1, 2, 3, 4711, 123456789, 2147483646, 48271};
        for (int seed : seeds) {
            FeltCold x = Check.town(text);
            FeltCold y = Check.town(text);
            for (int n : new int[] {1, 20, 19}) {
                c.due("lots(" + n + ", " + seed + ")", x.lots(n, seed), byHand(y, n, seed));
                c.due("digest() then", x.digest(), y.digest());
            }
            c.due("count(3)", x.count(3), 40);
            c.due("FULL", x.lots(1, seed), FeltCold.FULL);
            c.due("undo(39)", x.undo(39), 1);
            c.due("one more", x.lots(1, 1) >= 0 ? 1 : 0, 1);
        }
        FeltCold one = Check.town("r1231 o1000");
        c.due("lots in one ROOM", one.lots(20, 7), 0);
        c.due("count(3)", one.count(3), 20);
    }

    /** The same DEEDS one by one; he who has a COLD already gets it anew by waiting for none. */
    private static int byHand(FeltCold y, int n, long seed) {
        BigInteger lot = BigInteger.valueOf(seed);
        for (int k = 0; k < n; k++) {
            lot = lot.multiply(BigInteger.valueOf(48271)).mod(BigInteger.valueOf(2147483647));
            long number = lot.longValue();
            int who = (int) (number / 8 % y.count(0));
            y.member(who, 3);
            if (number % 4 < 2) {
                y.hour();
            } else if (number % 4 == 2) {
                y.walk(who, (y.asked() + 1) % y.count(1));
            } else if (y.cold(who) == FeltCold.STATE) {
                coldAnew(y, who);
            }
        }
        return y.count(4);
    }

    /** lots() is the one call by which one who has a COLD catches it anew: a seed with just that lot. */
    private static void coldAnew(FeltCold y, int who) {
        for (long lot = 3; lot < 2147483647L; lot += 4) {
            if (lot / 8 % y.count(0) == who) {
                BigInteger modulus = BigInteger.valueOf(2147483647);
                BigInteger seed = BigInteger.valueOf(48271).modInverse(modulus).multiply(BigInteger.valueOf(lot));
                y.lots(1, seed.mod(modulus).intValue());
                y.member(who, 4);
                c.due("a COLD anew", y.asked(), 2);
                return;
            }
        }
    }

    private static void lotsRefused() {
        FeltCold x = Check.town("r1231r2031 o1000");
        c.due("lots(0, 1)", x.lots(0, 1), FeltCold.BAD);
        c.due("lots(-1, 1)", x.lots(-1, 1), FeltCold.BAD);
        c.due("lots(21, 1)", x.lots(21, 1), FeltCold.BAD);
        c.due("lots(1, 0)", x.lots(1, 0), FeltCold.BAD);
        c.due("lots(1, -1)", x.lots(1, -1), FeltCold.BAD);
        c.due("lots(1, least)", x.lots(1, Integer.MIN_VALUE), FeltCold.BAD);
        c.due("lots(1, greatest)", x.lots(1, Integer.MAX_VALUE), FeltCold.BAD);
        c.due("count(3)", x.count(3), 0);
        for (int k = 0; k < 21; k++) {
            x.soup();
        }
        c.due("lots(20, 1) with 21 DEEDS", x.lots(20, 1), FeltCold.FULL);
        c.due("lots(21, 1), BAD ahead of FULL", x.lots(21, 1), FeltCold.BAD);
        c.due("count(3)", x.count(3), 21);
        c.due("lots(19, 1)", x.lots(19, 1) >= 0 ? 1 : 0, 1);
        c.due("count(3)", x.count(3), 40);
        c.due("lots(1, 1) of none", new FeltCold().lots(1, 1), FeltCold.STATE);
        c.due("lots(0, 1) of none", new FeltCold().lots(0, 1), FeltCold.BAD);
    }

    /** Each call that tells by asked() does, each other one and each refused one leaves it. */
    private static void asked() {
        FeltCold x = Check.town("r1231r2031 o1000 s1500");
        c.due("asked() before", x.asked(), 0);
        Check.lay(x, 0, 3, 5);
        c.told("at", x, x.at(0, 1), 1, 5);
        c.told("at refused", x, x.at(0, 2), FeltCold.FINDING, 5);
        c.told("lay", x, x.lay(0, 0, 1), 1, 3);
        c.told("lay refused", x, x.lay(9, 0, 1), FeltCold.BAD, 3);
        c.told("mean", x, x.mean(0), 1, 3);
        c.told("mean refused", x, x.mean(1), FeltCold.FINDING, 3);
        c.told("member", x, x.member(1, 6), 1, 15);
        c.told("member refused", x, x.member(2, 6), FeltCold.BAD, 15);
        c.told("span", x, x.span(0), Check.range(10, 15), 6);
        c.told("box", x, x.box(0, 1), 2, 16);
        c.told("box NONE", x, x.box(0, 3), FeltCold.NONE, 16);
        c.told("most", x, x.most(3), 2, 0);
        c.told("parts", x, x.parts(3), 3, 15);
        c.told("fewest", x, x.fewest(), 2, 3);
        Check.lay(x, 1, 1, 1);
        c.told("fits", x, x.fits(1), Check.range(0, 15), 16);
        x.cold(0);
        c.told("spreads", x, x.spreads(1), 3, 3);
        c.told("soups", x, x.soups(1, 3, 1), 0, 0);
        x.member(1, 6);
        c.told("soups NONE", x, x.soups(1, 3, 0), FeltCold.NONE, 15);
        x.row(2, 1);
        x.text(1, 1);
        x.put(1, 0, 3);
        x.fault(1);
        x.room(0, 0);
        x.mark(1, 1);
        x.walk(0, 1);
        x.hour();
        x.soup();
        x.love(0, 1);
        x.fire(0, 1);
        x.keep(0);
        x.undo(0);
        x.on(0);
        x.spanBy(0, 1);
        x.known();
        x.send(3);
        x.alike(3);
        x.tickled(1);
        x.shifts(0, 1);
        x.kinds(0, 1);
        x.odds(0, 1);
        x.mid(0, 1);
        x.lots(1, 1);
        x.copy(0, 0, 0, 0, 0);
        x.tear(0);
        x.count(2);
        x.finding();
        x.findings(1);
        x.digest();
        x.town(0);
        c.due("asked() behind all others", x.asked(), 15);
    }

    private static void upperAndLower() {
        FeltCold x = Check.town("r1231 o1000 o1500");
        c.due("upper() before", x.upper(), 0);
        c.due("lower() before", x.lower(), 1);
        c.chance("mid", x, x.mid(0, 6), 31, 4);
        c.due("upper() again", x.upper(), 31);
        x.mean(0);
        x.town(0);
        c.due("upper() behind a town anew", x.upper(), 31);
        c.due("lower() behind a town anew", x.lower(), 4);
        c.chance("odds of none", x, x.odds(0, 12), 0, 1);
    }

    private static void count() {
        FeltCold x = Check.town("r1231r1531 o1000 s1500 f1600 f1701");
        x.row(0, 1);
        x.row(5, 0);
        x.row(3, 0);
        x.tear(3);
        x.text(3, 0);
        x.keep(2);
        x.walk(0, 1);
        x.soup();
        x.hour();
        x.love(0, 1);
        int[] want = {4, 2, 1, 4, 1, 2, Check.bits(0, 1), 3, 2, 2, 1};
        for (int what = 0; what < want.length; what++) {
            c.due("count(" + what + ")", x.count(what), want[what]);
        }
        c.due("count(7) with the first", Check.town("r1231 s1000 f1500 o1600").count(7), 2);
        c.due("count(7) of others", Check.town("r1231 o1000 m1500 a1600 t1000").count(7), 0);
        c.due("count(11)", x.count(11), FeltCold.BAD);
        c.due("count(-1)", x.count(-1), FeltCold.BAD);
    }

    private static void findings() {
        FeltCold x = Check.town("r1231 o1000");
        c.due("finding() before", x.finding(), 0);
        for (int f = 1; f <= 5; f++) {
            c.due("findings(" + f + ") before", x.findings(f), 0);
        }
        x.row(0, 0);
        c.finding("NOTHING", x, x.tear(1), 1);
        c.finding("BEYOND", x, x.at(0, 0), 2);
        c.finding("UNLIKE", x, x.mark(0, 1), 3);
        c.finding("NOUGHT", x, x.mean(0), 4);
        c.finding("SIZE", x, x.row(0, -1), 5);
        c.finding("BEYOND again", x, x.lay(0, 0, 0), 2);
        x.row(0, 99);
        x.walk(0, 0);
        c.due("BAD, STATE leave finding()", x.finding(), 2);
        int[] want = {1, 2, 1, 1, 1};
        for (int f = 1; f <= 5; f++) {
            c.due("findings(" + f + ")", x.findings(f), want[f - 1]);
        }
        c.due("findings(0)", x.findings(0), FeltCold.BAD);
        c.due("findings(6)", x.findings(6), FeltCold.BAD);
        c.due("findings(-1)", x.findings(-1), FeltCold.BAD);
        x.town(0);
        c.due("a town anew leaves findings(2)", x.findings(2), 2);
    }

    private static long h;

    private static void add(long v) {
        h = 31 * h + v;
    }

    private static void digest() {
        FeltCold x = new FeltCold();
        h = 17;
        for (int k = 0; k < 11; k++) {
            add(0);
        }
        for (int k = 0; k < 13; k++) {
            add(-1);
        }
        c.due("digest() of none", x.digest(), h);
        x = Check.town("r1231r1531 o1000 s1501");
        Check.lay(x, 1, -7, 8, Integer.MIN_VALUE);
        x.text(2, 2);
        x.put(2, 0, 200);
        x.soup();
        x.keep(1);
        x.hour();
        h = 17;
        for (int v : new int[] {2, 2, 1, 2, 0, 2, 3, 1, 1, 2, 1}) {
            add(v);
        }
        for (int v : new int[] {12, 31, 1, 1, 15, 31, 2, 2}) {
            add(v);
        }
        for (int v : new int[] {0, 10, 0, 0, 0, 0, 11, 1, 1, 15, 0, 1, 0, 0, 16, 1}) {
            add(v);
        }
        for (int v : new int[] {-1, 1, -1, -1, 3, -7, 8, Integer.MIN_VALUE, -1, -1, -1, -1, 22}) {
            add(v);
        }
        for (char sign : "r1231r1531 o1000 s1501".toCharArray()) {
            add(sign);
        }
        for (int v : new int[] {-1, 2, -56, 32, -1}) {
            add(v);
        }
        c.due("digest()", x.digest(), h);
        c.due("digest() again", x.digest(), h);
    }
}
