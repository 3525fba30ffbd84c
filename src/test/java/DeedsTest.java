/** Promises 15 to 23: DEEDS, undone, kept, gone on from. */
public final class DeedsTest {
    private static final Check c = new Check();
    private static final int LEAST = Integer.MIN_VALUE, GREATEST = Integer.MAX_VALUE;

    public static void main(String[] args) {
        walk();
        hour();
        soup();
        cold();
        love();
        fire();
        full();
        undo();
        keepAndOn();
        c.end();
    }

    private static void walk() {
        FeltCold x = Check.town("r1001r1101r1201r1301 o1000 s1003");
        c.due("walk(0, 3)", x.walk(0, 3), 3);
        c.told("member(0, 3)", x, x.member(0, 3), 1, 3);
        c.due("walk(1, 2)", x.walk(1, 2), 4);
        c.due("walk(0, 1)", x.walk(0, 1), 6);
        c.due("count(4)", x.count(4), 6);
        c.due("count(3)", x.count(3), 3);
        c.due("walk to where he is", x.walk(0, 1), FeltCold.STATE);
        c.due("walk(2, 0)", x.walk(2, 0), FeltCold.BAD);
        c.due("walk(-1, 0)", x.walk(-1, 0), FeltCold.BAD);
        c.due("walk(0, 4)", x.walk(0, 4), FeltCold.BAD);
        c.due("walk(0, -1)", x.walk(0, -1), FeltCold.BAD);
        c.due("refused: count(3)", x.count(3), 3);
    }

    private static void hour() {
        FeltCold x = Check.town("r1001r1101 o1000 s1000 t1000 m1001 f1001 a1001");
        c.due("hour() without COLDS", x.hour(), 0);
        x.cold(0);
        c.due("hour(): those in the ROOM", x.hour(), Check.bits(1, 2));
        colds(x, 1, 2, 2, 0, 0, 0);
        x.walk(1, 1);
        c.due("hour(): all at once", x.hour(), Check.bits(3, 4, 5));
        colds(x, 0, 1, 1, 2, 2, 2);
        c.due("hour(): anew", x.hour(), Check.bits(0));
        colds(x, 2, 0, 0, 1, 1, 1);
        c.due("count(2)", x.count(2), 4);
        c.due("hour() of none", new FeltCold().hour(), FeltCold.STATE);
        FeltCold y = Check.town("r1001 a1000");
        for (int h = 0; h < 40; h++) {
            c.told("FEELS at HOUR " + h, y, y.member(0, 6), 1, 12 - h / 6);
            c.due("hour() alone", y.hour(), 0);
        }
    }

    private static void colds(FeltCold x, int... want) {
        for (int i = 0; i < want.length; i++) {
            c.told("COLD of " + i, x, x.member(i, 4), 1, want[i]);
        }
    }

    private static void soup() {
        FeltCold x = Check.town("r1001 o1000 s1000 f1000 o0900");
        c.due("count(6)", x.count(6), Check.bits(0, 1, 3));
        c.due("soup()", x.soup(), Check.bits(1, 3));
        c.due("count(5)", x.count(5), 3);
        x.hour();
        c.due("count(5) behind 1", x.count(5), 2);
        x.hour();
        c.due("count(5) behind 2", x.count(5), 1);
        c.due("soup() anew", x.soup(), Check.bits(1, 3));
        c.due("count(5) anew", x.count(5), 3);
        c.due("soup() does not add up", x.soup(), Check.bits(1, 3));
        c.due("count(5) of three served", x.count(5), 3);
        x.cold(3);
        c.due("soup() with a COLD", x.soup(), Check.bits(1));
        x.hour();
        x.hour();
        x.hour();
        c.due("count(5) behind 3", x.count(5), 0);
        x.hour();
        c.due("count(5) behind 4", x.count(5), 0);
        c.due("soup() of none", new FeltCold().soup(), FeltCold.STATE);
    }

    private static void cold() {
        FeltCold x = Check.town("r1001r1001 o1000 s1001 f1000");
        c.due("cold(0)", x.cold(0), 1);
        c.due("cold(1)", x.cold(1), 2);
        colds(x, 2, 2, 0);
        c.due("cold(0) again", x.cold(0), FeltCold.STATE);
        x.hour();
        colds(x, 1, 1, 2);
        c.due("cold(1) behind 1 HOUR", x.cold(1), FeltCold.STATE);
        x.hour();
        c.due("cold(1) behind 2 HOURS", x.cold(1), 2);
        c.due("cold(3)", x.cold(3), FeltCold.BAD);
        c.due("cold(-1)", x.cold(-1), FeltCold.BAD);
    }

    private static void love() {
        FeltCold x = Check.town("r1031 o1000 s1000");
        c.due("love(0, 1)", x.love(0, 1), 0);
        c.due("love(0, -5)", x.love(0, -5), 1);
        c.due("love(1, -1)", x.love(1, -1), 0);
        c.due("love(1, 5)", x.love(1, 5), 1);
        c.due("love(1, 5) again", x.love(1, 5), FeltCold.STATE);
        c.due("love(1, 0)", x.love(1, 0), 1);
        c.told("SHIFT", x, x.member(1, 5), 1, 0);
        c.due("love(0, 6)", x.love(0, 6), FeltCold.BAD);
        c.due("love(0, -6)", x.love(0, -6), FeltCold.BAD);
        c.due("love(2, 1)", x.love(2, 1), FeltCold.BAD);
        c.due("love(-1, 1)", x.love(-1, 1), FeltCold.BAD);
        x.cold(0);
        c.due("love with a COLD", x.love(0, -4), 0);
        c.due("love of 0 that is so", Check.town("r1031 o1000").love(0, 0), FeltCold.STATE);
    }

    private static void fire() {
        FeltCold x = Check.town("r1031r1131 o1000");
        c.due("fire(0, 0)", x.fire(0, 0), 10);
        c.due("fire(0, 30)", x.fire(0, 30), 0);
        c.due("fire(0, 30) again", x.fire(0, 30), FeltCold.STATE);
        c.due("fire(1, 12)", x.fire(1, 12), 11);
        c.due("room(0, 0)", x.room(0, 0), 30);
        c.due("room(1, 0)", x.room(1, 0), 12);
        c.due("fire(0, 31)", x.fire(0, 31), FeltCold.BAD);
        c.due("fire(0, -1)", x.fire(0, -1), FeltCold.BAD);
        c.due("fire(2, 1)", x.fire(2, 1), FeltCold.BAD);
        c.due("fire(-1, 1)", x.fire(-1, 1), FeltCold.BAD);
        c.due("count(3)", x.count(3), 3);
    }

    private static void full() {
        FeltCold x = Check.town("r1031r1131 o1000 s1000");
        x.cold(1);
        for (int k = 1; k < 40; k++) {
            c.due("soup() " + k, x.soup(), 0);
        }
        c.due("count(3)", x.count(3), 40);
        c.due("walk, FULL", x.walk(0, 1), FeltCold.FULL);
        c.due("walk, STATE ahead of FULL", x.walk(0, 0), FeltCold.STATE);
        c.due("walk, BAD ahead of FULL", x.walk(0, 2), FeltCold.BAD);
        c.due("hour, FULL", x.hour(), FeltCold.FULL);
        c.due("soup, FULL", x.soup(), FeltCold.FULL);
        c.due("cold, FULL", x.cold(0), FeltCold.FULL);
        c.due("cold, STATE ahead of FULL", x.cold(1), FeltCold.STATE);
        c.due("cold, BAD ahead of FULL", x.cold(2), FeltCold.BAD);
        c.due("love, FULL", x.love(0, 1), FeltCold.FULL);
        c.due("love, STATE ahead of FULL", x.love(0, 0), FeltCold.STATE);
        c.due("love, BAD ahead of FULL", x.love(0, 6), FeltCold.BAD);
        c.due("fire, FULL", x.fire(0, 1), FeltCold.FULL);
        c.due("fire, STATE ahead of FULL", x.fire(0, 10), FeltCold.STATE);
        c.due("fire, BAD ahead of FULL", x.fire(0, 31), FeltCold.BAD);
        c.due("undo(39)", x.undo(39), 1);
        c.due("one more", x.walk(0, 1), 1);
        c.due("and then FULL", x.hour(), FeltCold.FULL);
        x.undo(39);
        c.due("one more love", x.love(1, 1), 0);
        x.undo(39);
        c.due("one more fire", x.fire(1, 9), 11);
        x.undo(39);
        c.due("one more COLD", x.cold(0), 2);
        x.undo(39);
        c.due("one more HOUR", x.hour(), 1);
        c.due("and then FULL again", x.hour(), FeltCold.FULL);
    }

    private static void undo() {
        FeltCold x = Check.town("r1031r1131r2031 o1000 a1001 s1002");
        long[] digests = new long[11];
        digests[0] = x.digest();
        x.walk(0, 2);
        digests[1] = x.digest();
        x.soup();
        digests[2] = x.digest();
        x.cold(2);
        digests[3] = x.digest();
        x.hour();
        digests[4] = x.digest();
        x.love(1, -5);
        digests[5] = x.digest();
        x.fire(2, 30);
        digests[6] = x.digest();
        x.love(1, 5);
        digests[7] = x.digest();
        x.fire(0, 0);
        digests[8] = x.digest();
        x.hour();
        digests[9] = x.digest();
        x.walk(0, 0);
        digests[10] = x.digest();
        c.due("undo(11)", x.undo(11), FeltCold.BAD);
        c.due("undo(-1)", x.undo(-1), FeltCold.BAD);
        c.due("undo(least)", x.undo(LEAST), FeltCold.BAD);
        c.due("undo(greatest)", x.undo(GREATEST), FeltCold.BAD);
        c.due("undo(10)", x.undo(10), 0);
        int[] back = {10, 9, 8, 7, 6, 5, 4, 3, 2, 1, 0};
        for (int n : back) {
            c.due("undo(" + n + ")", x.undo(n), n == 10 ? 0 : 1);
            c.due("digest() behind undo(" + n + ")", x.digest(), digests[n]);
        }
        c.due("count(4)", x.count(4), 0);
        c.due("again", x.walk(0, 2), 2);
        c.due("digest() again", x.digest(), digests[1]);
        c.due("undo(0) of none", new FeltCold().undo(0), 0);
        c.due("undo(1) of none", new FeltCold().undo(1), FeltCold.BAD);
    }

    private static void keepAndOn() {
        FeltCold x = Check.town("r1031r1131r2031 o1000 a1001 s1002");
        c.due("keep(0)", x.keep(0), 0);
        x.walk(0, 2);
        x.cold(0);
        c.due("keep(2)", x.keep(2), 2);
        long kept = x.digest();
        c.due("count(10)", x.count(10), 2);
        x.hour();
        x.fire(1, 9);
        c.due("on(2)", x.on(2), 2);
        c.due("digest() behind on(2)", x.digest(), kept);
        c.due("undo(1) behind on(2)", x.undo(1), 1);
        c.due("undone: no COLD", x.member(0, 4) + x.asked(), 1);
        c.due("walked yet", x.count(4), 2);
        c.due("on(2) again", x.on(2), 2);
        c.due("digest() behind on(2) again", x.digest(), kept);
        x.undo(0);
        x.love(1, 3);
        x.fire(2, 1);
        x.soup();
        c.due("on(2) from other DEEDS", x.on(2), 2);
        c.due("digest() behind on(2) from other DEEDS", x.digest(), kept);
        c.due("undo(1) of the kept DEEDS", x.undo(1), 1);
        c.due("walked yet, once more", x.count(4), 2);
        c.due("on(0)", x.on(0), 0);
        c.due("count(4) behind on(0)", x.count(4), 0);
        x.soup();
        c.due("keep(0) anew", x.keep(0), 1);
        x.undo(0);
        c.due("on(0) anew", x.on(0), 1);
        c.due("count(5) behind on(0)", x.count(5), 3);
        c.finding("on(1)", x, x.on(1), 1);
        c.due("on(3)", x.on(3), FeltCold.BAD);
        c.due("on(-1)", x.on(-1), FeltCold.BAD);
        c.due("keep(3)", x.keep(3), FeltCold.BAD);
        c.due("keep(-1)", x.keep(-1), FeltCold.BAD);
        FeltCold y = new FeltCold();
        c.due("keep(0) of none", y.keep(0), FeltCold.STATE);
        c.due("keep(3) of none", y.keep(3), FeltCold.BAD);
        c.finding("on(0) of none", y, y.on(0), 1);
    }
}
