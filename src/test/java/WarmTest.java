/** Promises 24 to 32: SPANS, KNOWN ROOMS, whom to send where, parts that they can tell. */
public final class WarmTest {
    private static final Check c = new Check();
    private static final int ALL = Integer.MAX_VALUE;

    public static void main(String[] args) {
        span();
        spanBy();
        known();
        box();
        send();
        most();
        parts();
        fewest();
        alike();
        c.end();
    }

    private static void span() {
        FeltCold x = Check.town("r1231r2031r0531 o1000 s1500 t1821 f2501");
        c.told("span(0)", x, x.span(0), Check.range(10, 15), 6);
        c.told("span(1)", x, x.span(1), Check.range(18, 20), 3);
        c.told("span(2) of nobody", x, x.span(2), ALL, 31);
        x.cold(0);
        c.told("span(0) with a COLD", x, x.span(0), Check.range(0, 15), 16);
        x.cold(1);
        c.told("span(0) with COLDS alone", x, x.span(0), ALL, 31);
        x.walk(2, 2);
        c.told("span(2) of a TWIN who does not", x, x.span(2), Check.range(0, 17) | Check.range(21, 30), 28);
        x.soup();
        c.told("span(2) by SOUP", x, x.span(2), Check.range(0, 18) | Check.range(22, 30), 28);
        c.due("span(3)", x.span(3), FeltCold.BAD);
        c.due("span(-1)", x.span(-1), FeltCold.BAD);
        c.due("refused: asked()", x.asked(), 28);
        c.due("span(0) of none", new FeltCold().span(0), FeltCold.BAD);
    }

    private static void spanBy() {
        FeltCold x = Check.town("r1231r2031 o1000 s1500 t1821");
        c.due("spanBy(0, none)", x.spanBy(0, 0), 31);
        c.due("spanBy(0, 1)", x.spanBy(0, 1), 21);
        c.due("spanBy(0, 2)", x.spanBy(0, 2), 16);
        c.due("spanBy(0, 4)", x.spanBy(0, 4), 28);
        c.due("spanBy(0, 7)", x.spanBy(0, 7), 6);
        c.due("spanBy(1, 1)", x.spanBy(1, 1), 21);
        c.due("spanBy(1, 2)", x.spanBy(1, 2), 15);
        c.due("spanBy(1, 4)", x.spanBy(1, 4), 3);
        c.due("spanBy(1, 7)", x.spanBy(1, 7), 3);
        x.cold(2);
        c.due("spanBy(1, 4) with a COLD", x.spanBy(1, 4), 31);
        c.due("spanBy(1, 8)", x.spanBy(1, 8), FeltCold.BAD);
        c.due("spanBy(1, -1)", x.spanBy(1, -1), FeltCold.BAD);
        c.due("spanBy(2, 0)", x.spanBy(2, 0), FeltCold.BAD);
        c.due("spanBy(-1, 0)", x.spanBy(-1, 0), FeltCold.BAD);
        c.due("spanBy() does not change asked()", x.asked(), 0);
    }

    private static void known() {
        FeltCold x = Check.town("r1206r2002r0531r1030 o1000 s1500 t1821");
        c.due("known()", x.known(), Check.bits(0, 2));
        x.walk(1, 1);
        c.due("known() behind a walk", x.known(), Check.bits(2));
        x.love(2, 2);
        c.due("known() behind love", x.known(), Check.bits(2));
        x.love(1, 5);
        c.due("known() behind more love", x.known(), Check.bits(1, 2));
        x.walk(0, 3);
        c.due("known() behind another walk", x.known(), Check.bits(1, 2, 3));
        x.fire(3, 9);
        c.due("known() behind cooling", x.known(), Check.bits(1, 2, 3));
        x.cold(0);
        c.due("known() with a COLD", x.known(), Check.bits(1, 2));
        c.due("known() of none", new FeltCold().known(), 0);
    }

    private static void box() {
        FeltCold x = Check.town("r1231r2031 o1000 s1500 t1821 o1100");
        c.told("box(0, 0)", x, x.box(0, 0), 0, 31);
        c.told("box(0, 1)", x, x.box(0, 1), Check.bits(1), 16);
        c.told("box(0, 2)", x, x.box(0, 2), Check.bits(1, 3), 5);
        c.told("box(0, 3)", x, x.box(0, 3), Check.bits(0, 1, 3), 5);
        c.told("box(1, 1)", x, x.box(1, 1), Check.bits(2), 3);
        c.told("box(1, 2), the least", x, x.box(1, 2), Check.bits(0, 2), 3);
        c.told("box(1, 4)", x, x.box(1, 4), 15, 3);
        c.due("box(0, 5)", x.box(0, 5), FeltCold.NONE);
        c.due("box(0, 6)", x.box(0, 6), FeltCold.NONE);
        c.due("NONE: asked()", x.asked(), 3);
        c.due("box(0, 7)", x.box(0, 7), FeltCold.BAD);
        c.due("box(0, -1)", x.box(0, -1), FeltCold.BAD);
        c.due("box(2, 5)", x.box(2, 5), FeltCold.BAD);
        c.due("box(-1, 0)", x.box(-1, 0), FeltCold.BAD);
    }

    private static void sent(FeltCold x, int r, int... want) {
        for (int i = 0; i < want.length; i++) {
            c.told("sent: at(" + r + ", " + i + ")", x, x.at(r, i), 1, want[i]);
        }
        c.finding("sent: no more", x, x.at(r, want.length), 2);
    }

    private static void send() {
        FeltCold x = Check.town("r1231r2010 o1500 o2000");
        c.due("send(4): nearest", x.send(4), FeltCold.NONE);
        c.due("NONE: no ROW", x.count(8), 0);
        FeltCold y = Check.town("r1231r2011 o1500 o2000");
        c.due("send(4)", y.send(4), 1);
        sent(y, 4, 0, 1);
        Check.lay(y, 4, 5, 5, 5, 5, 5);
        c.due("send(4) anew", y.send(4), 1);
        sent(y, 4, 0, 1);
        y.walk(1, 1);
        c.due("send(0) with none to walk", y.send(0), 0);
        sent(y, 0, 0, 1);
        c.due("send does not walk", y.count(3), 1);
        c.due("send does not change asked()", y.asked(), 1);
        FeltCold z = Check.town("r1231r1531r1531r2011 o2000 o2000 o2003");
        c.due("send where all are KNOWN", z.send(1), 0);
        sent(z, 1, 0, 0, 3);
        z.walk(2, 0);
        c.due("send: the first by MEMBERS", z.send(1), 3);
        sent(z, 1, 0, 0, 3);
        FeltCold v = Check.town("r1231r1531r2011 o2000 o1900 m1801");
        c.due("send: the nearest", v.send(2), 1);
        sent(v, 2, 0, 0, 2);
        v.cold(2);
        c.due("send: none with a COLD", v.send(2), 2);
        sent(v, 2, 2, 0, 1);
        FeltCold w = Check.town("r1007r0531 o1000 s1600 s1601");
        c.due("send: with one who is there", w.send(1), 0);
        w.walk(1, 1);
        c.due("send: either", w.send(1), 1);
        sent(w, 1, 0, 0, 1);
        c.due("send(6)", w.send(6), FeltCold.BAD);
        c.due("send(-1)", w.send(-1), FeltCold.BAD);
        c.due("send(0) of none", new FeltCold().send(0), FeltCold.STATE);
        c.due("send(6) of none", new FeltCold().send(6), FeltCold.BAD);
    }

    private static void most() {
        FeltCold x = Check.town("r1531r1520r2015r2511 o1500 o2000 o2000 o1000");
        c.told("most(0)", x, x.most(0), 1, 0);
        c.told("most(1)", x, x.most(1), 2, 1);
        c.told("most(2)", x, x.most(2), 2, 1);
        c.told("most(3)", x, x.most(3), 3, 3);
        c.told("most(4)", x, x.most(4), 3, 3);
        c.told("most(6)", x, x.most(6), 4, 6);
        c.told("most(18)", x, x.most(18), 4, 6);
        c.due("most(19)", x.most(19), FeltCold.BAD);
        c.due("most(-1)", x.most(-1), FeltCold.BAD);
        c.due("most(0) of none", new FeltCold().most(0), FeltCold.STATE);
        c.due("most(19) of none", new FeltCold().most(19), FeltCold.BAD);
        FeltCold y = Check.town("r1501 o0000");
        c.told("most(18): none", y, y.most(18), 0, 0);
        FeltCold z = Check.town("r3001r3031r3031r3001 o3000o3000o3000o3000o3000o3003");
        c.told("most(18) at the far end", z, z.most(18), 4, 0);
        z.walk(5, 0);
        c.told("most(2)", z, z.most(2), 3, 0);
        c.told("most(3)", z, z.most(3), 4, 3);
    }

    private static void parts() {
        FeltCold x = Check.town("r1231 o1000 s1500 t1820 f2500");
        c.told("parts(0)", x, x.parts(0), 1, 31);
        c.told("parts(1)", x, x.parts(1), 2, 21);
        c.told("parts(3)", x, x.parts(3), 3, 15);
        c.told("parts(4): a TWIN", x, x.parts(4), 2, 28);
        c.told("parts(7)", x, x.parts(7), 4, 12);
        c.told("parts(15)", x, x.parts(15), 5, 10);
        x.cold(0);
        c.told("parts(15) with a COLD", x, x.parts(15), 4, 16);
        c.told("parts(1) with a COLD", x, x.parts(1), 1, 31);
        c.due("parts(16)", x.parts(16), FeltCold.BAD);
        c.due("parts(-1)", x.parts(-1), FeltCold.BAD);
        c.due("refused: asked()", x.asked(), 31);
        c.due("parts(0) of none", new FeltCold().parts(0), FeltCold.STATE);
        c.due("parts(-1) of none", new FeltCold().parts(-1), FeltCold.STATE);
    }

    private static void fewest() {
        FeltCold x = Check.town("r1231 o1000 s0900 o2000 o3000 m0800");
        c.told("fewest(): the least", x, x.fewest(), 3, Check.bits(0, 2, 3));
        x.cold(0);
        c.told("fewest() with a COLD", x, x.fewest(), 3, Check.bits(1, 2, 3));
        x.love(2, 5);
        x.love(3, -5);
        c.told("fewest() behind love", x, x.fewest(), 2, Check.bits(1, 2));
        FeltCold y = Check.town("r1231 o0000 s3000");
        c.told("fewest(): nobody", y, y.fewest(), 0, 0);
        c.due("fewest() of none", new FeltCold().fewest(), FeltCold.STATE);
    }

    private static void alike() {
        FeltCold x = Check.town("r1231r1231 o1000 s1501 t1820");
        c.due("alike(0)", x.alike(0), Check.range(0, 9));
        c.due("alike(9)", x.alike(9), Check.range(0, 9));
        c.due("alike(10)", x.alike(10), Check.range(10, 15));
        c.due("alike(16)", x.alike(16), Check.range(16, 17) | Check.range(21, 30));
        c.due("alike(30)", x.alike(30), Check.range(16, 17) | Check.range(21, 30));
        c.due("alike(19)", x.alike(19), Check.range(18, 20));
        x.cold(2);
        c.due("alike(19) with a COLD", x.alike(19), Check.range(16, 30));
        c.due("alike(31)", x.alike(31), FeltCold.BAD);
        c.due("alike(-1)", x.alike(-1), FeltCold.BAD);
        c.due("alike() does not change asked()", x.asked(), 0);
        c.due("alike(0) of none", new FeltCold().alike(0), FeltCold.STATE);
        c.due("alike(31) of none", new FeltCold().alike(31), FeltCold.BAD);
    }
}
