/** Objects with a past, on which refused calls have something that they could spoil. */
final class Lived {
    static final int LEAST = Integer.MIN_VALUE, GREATEST = Integer.MAX_VALUE;
    /** Three ROOMS, a MEMBER of each KIND. */
    static final String TEXT = "r1208r2010r0531 o1500s0402t1130m1901f2200a1811";

    private Lived() {
    }

    /** ROWS, TEXTS, FINDINGS and something told, but no TOWN. */
    static FeltCold without() {
        FeltCold x = new FeltCold();
        fill(x);
        findAll(x);
        x.at(0, 1);
        return x;
    }

    /** A TOWN with 6 DEEDS of all kinds, kept in places 0, 2. */
    static FeltCold town() {
        FeltCold x = new FeltCold();
        fill(x);
        x.town(0);
        x.soup();
        x.keep(0);
        x.cold(2);
        x.walk(1, 0);
        x.hour();
        x.keep(2);
        x.love(0, 3);
        x.fire(1, 21);
        findAll(x);
        x.odds(0, 5);
        x.member(0, 6);
        return x;
    }

    /** A TOWN with 40 DEEDS, kept in place 1; MEMBER 0 has a COLD, 1 is SHIFTED by 2, 2 is in ROOM 2. */
    static FeltCold full() {
        FeltCold x = new FeltCold();
        fill(x);
        x.town(0);
        x.cold(0);
        x.love(1, 2);
        x.walk(2, 2);
        for (int k = 3; k < 40; k++) {
            x.soup();
        }
        x.keep(1);
        findAll(x);
        x.mid(0, 5);
        x.member(5, 6);
        return x;
    }

    /** A TOWN with 39 DEEDS, the same but for the last one. */
    static FeltCold almostFull() {
        FeltCold x = full();
        x.undo(39);
        return x;
    }

    /** ROWS 0 (a record), 1 (days), 2 (empty), 3 (not by pairs); TEXTS 0 (a TOWN), 1 (a FAULT), 2 (empty). */
    private static void fill(FeltCold x) {
        Check.lay(x, 0, 0, 1, 1, 0);
        Check.lay(x, 1, 12, 1, 3, 0);
        Check.lay(x, 2);
        Check.lay(x, 3, 5);
        Check.write(x, 0, TEXT);
        Check.write(x, 1, "r1501");
        Check.write(x, 2, "");
    }

    /** Some FINDINGS, NOUGHT as the latest. */
    private static void findAll(FeltCold x) {
        x.tear(4);
        x.at(0, 4);
        x.row(4, -1);
        x.mark(0, 1);
        x.mean(2);
    }
}
