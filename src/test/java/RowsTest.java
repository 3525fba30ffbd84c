/** Promises 1 to 9: a new object, ROWS, TEXTS. */
public final class RowsTest {
    private static final Check c = new Check();
    private static final int LEAST = Integer.MIN_VALUE, GREATEST = Integer.MAX_VALUE;

    public static void main(String[] args) {
        newObject();
        row();
        layAndAt();
        tear();
        copy();
        mean();
        text();
        put();
        c.end();
    }

    private static void newObject() {
        FeltCold x = new FeltCold();
        for (int what = 0; what <= 10; what++) {
            c.due("new count(" + what + ")", x.count(what), 0);
        }
        for (int r = 0; r < 6; r++) {
            c.finding("new at(" + r + ", 0)", x, x.at(r, 0), 1);
        }
        for (int t = 0; t < 4; t++) {
            c.finding("new put(" + t + ", 0, 0)", x, x.put(t, 0, 0), 1);
        }
        c.due("new member", x.member(0, 0), FeltCold.BAD);
        c.due("new room", x.room(0, 0), FeltCold.BAD);
    }

    private static void row() {
        FeltCold x = new FeltCold();
        c.due("row(0, 0)", x.row(0, 0), 0);
        c.due("row(5, 40)", x.row(5, 40), 40);
        c.due("count(8)", x.count(8), 2);
        x.lay(5, 39, 7);
        c.told("at(5, 39)", x, x.at(5, 39), 1, 7);
        c.due("row(5, 40) anew", x.row(5, 40), 40);
        c.told("at(5, 39) anew", x, x.at(5, 39), 1, 0);
        c.due("row(5, 2)", x.row(5, 2), 2);
        c.finding("at(5, 2)", x, x.at(5, 2), 2);
        c.due("row(5, 41)", x.row(5, 41), FeltCold.BAD);
        c.due("row(5, greatest)", x.row(5, GREATEST), FeltCold.BAD);
        c.due("row(6, 1)", x.row(6, 1), FeltCold.BAD);
        c.due("row(-1, 1)", x.row(-1, 1), FeltCold.BAD);
        c.due("row(6, -1)", x.row(6, -1), FeltCold.BAD);
        c.finding("row(5, -1)", x, x.row(5, -1), 5);
        c.finding("row(4, least)", x, x.row(4, LEAST), 5);
        c.due("findings(5)", x.findings(5), 2);
        c.due("refused rows change nothing", x.count(8), 2);
        c.told("at(5, 1)", x, x.at(5, 1), 1, 0);
    }

    private static void layAndAt() {
        FeltCold x = new FeltCold();
        c.due("lay(6, 0, 0)", x.lay(6, 0, 0), FeltCold.BAD);
        c.due("lay(-1, 0, 0)", x.lay(-1, 0, 0), FeltCold.BAD);
        c.due("at(6, 0)", x.at(6, 0), FeltCold.BAD);
        c.due("at(-1, 0)", x.at(-1, 0), FeltCold.BAD);
        c.finding("lay on none", x, x.lay(2, 9, 1), 1);
        x.row(2, 3);
        c.told("lay(2, 0, 8)", x, x.lay(2, 0, 8), 1, 0);
        c.told("lay(2, 0, least)", x, x.lay(2, 0, LEAST), 1, 8);
        c.told("lay(2, 2, -9)", x, x.lay(2, 2, -9), 1, 0);
        c.told("at(2, 0)", x, x.at(2, 0), 1, LEAST);
        c.told("at(2, 2)", x, x.at(2, 2), 1, -9);
        c.finding("lay(2, 3, 1)", x, x.lay(2, 3, 1), 2);
        c.finding("lay(2, -1, 1)", x, x.lay(2, -1, 1), 2);
        c.finding("at(2, greatest)", x, x.at(2, GREATEST), 2);
        c.finding("at(2, least)", x, x.at(2, LEAST), 2);
        c.due("refused: asked() as before", x.asked(), -9);
        c.due("findings(2)", x.findings(2), 4);
        c.due("findings(1)", x.findings(1), 1);
    }

    private static void tear() {
        FeltCold x = new FeltCold();
        c.finding("tear(0) of none", x, x.tear(0), 1);
        x.row(0, 0);
        x.row(3, 4);
        c.due("tear(3)", x.tear(3), 1);
        c.due("count(8)", x.count(8), 1);
        c.finding("at(3, 0) of a torn one", x, x.at(3, 0), 1);
        c.finding("tear(3) again", x, x.tear(3), 1);
        c.due("tear(0) of an empty one", x.tear(0), 1);
        c.due("tear(6)", x.tear(6), FeltCold.BAD);
        c.due("tear(-1)", x.tear(-1), FeltCold.BAD);
    }

    private static void copy() {
        FeltCold x = new FeltCold();
        Check.lay(x, 0, 1, 2, 3, 4, 5);
        Check.lay(x, 1, 9, 9, 9);
        c.due("copy on into itself", x.copy(0, 0, 0, 1, 4), 1);
        row(x, 0, 1, 1, 2, 3, 4);
        c.due("copy back into itself", x.copy(0, 1, 0, 0, 4), 1);
        row(x, 0, 1, 2, 3, 4, 4);
        c.due("copy to another", x.copy(0, 2, 1, 1, 2), 1);
        row(x, 1, 9, 3, 4);
        c.due("copy none at the ends", x.copy(0, 5, 1, 3, 0), 1);
        c.finding("copy none beyond", x, x.copy(0, 6, 1, 0, 0), 2);
        c.finding("copy none to beyond", x, x.copy(0, 0, 1, 4, 0), 2);
        c.finding("copy below", x, x.copy(0, -1, 1, 0, 1), 2);
        c.finding("copy to below", x, x.copy(0, 0, 1, -1, 1), 2);
        c.finding("copy too many", x, x.copy(0, 0, 1, 0, 4), 2);
        c.finding("copy too many from", x, x.copy(1, 0, 0, 0, 4), 2);
        c.finding("copy greatest", x, x.copy(0, GREATEST, 1, GREATEST, GREATEST), 2);
        c.finding("copy by wrap-around", x, x.copy(0, 1, 1, 1, GREATEST), 2);
        row(x, 0, 1, 2, 3, 4, 4);
        row(x, 1, 9, 3, 4);
        c.finding("copy -1", x, x.copy(0, 0, 1, 0, -1), 5);
        c.finding("copy least", x, x.copy(5, 0, 1, 0, LEAST), 5);
        c.finding("copy of none", x, x.copy(5, 9, 1, 9, 9), 1);
        c.finding("copy to none", x, x.copy(1, 9, 5, 9, 9), 1);
        c.due("copy(6, ..)", x.copy(6, 0, 0, 0, -1), FeltCold.BAD);
        c.due("copy(.., 6, ..)", x.copy(0, 0, 6, 0, 0), FeltCold.BAD);
        c.due("copy(-1, ..)", x.copy(-1, 0, 0, 0, 0), FeltCold.BAD);
        c.due("copy(.., -1, ..)", x.copy(0, 0, -1, 0, 0), FeltCold.BAD);
    }

    private static void row(FeltCold x, int r, int... places) {
        for (int i = 0; i < places.length; i++) {
            c.told("at(" + r + ", " + i + ")", x, x.at(r, i), 1, places[i]);
        }
    }

    private static void mean() {
        FeltCold x = new FeltCold();
        c.finding("mean of none", x, x.mean(0), 1);
        x.row(0, 0);
        c.finding("mean of an empty one", x, x.mean(0), 4);
        c.due("mean(6)", x.mean(6), FeltCold.BAD);
        c.due("mean(-1)", x.mean(-1), FeltCold.BAD);
        Check.lay(x, 0, 1, 2, 5);
        c.told("mean 8 by 3", x, x.mean(0), 1, 2);
        Check.lay(x, 0, -1, -2, -5);
        c.told("mean -8 by 3", x, x.mean(0), 1, -2);
        Check.lay(x, 0, GREATEST, GREATEST, GREATEST);
        c.told("mean of the greatest", x, x.mean(0), 1, GREATEST);
        Check.lay(x, 0, LEAST, LEAST);
        c.told("mean of the least", x, x.mean(0), 1, LEAST);
    }

    private static void text() {
        FeltCold x = new FeltCold();
        c.due("text(0, 60)", x.text(0, 60), 60);
        c.due("text(3, 0)", x.text(3, 0), 0);
        c.due("count(9)", x.count(9), 2);
        c.due("text(0, 61)", x.text(0, 61), FeltCold.BAD);
        c.due("text(4, 1)", x.text(4, 1), FeltCold.BAD);
        c.due("text(-1, 1)", x.text(-1, 1), FeltCold.BAD);
        c.due("text(4, -1)", x.text(4, -1), FeltCold.BAD);
        c.finding("text(1, -1)", x, x.text(1, -1), 5);
        c.due("count(9) behind refusals", x.count(9), 2);
        c.due("put(0, 59, 65)", x.put(0, 59, 65), 1032);
        c.due("text(0, 60) anew", x.text(0, 60), 60);
        c.due("put(0, 59, 65) anew", x.put(0, 59, 65), 1032);
    }

    private static void put() {
        FeltCold x = new FeltCold();
        c.finding("put on none", x, x.put(0, 5, 1), 1);
        x.text(0, 2);
        c.due("put(0, 0, 127)", x.put(0, 0, 127), 1032);
        c.due("put(0, 0, 128)", x.put(0, 0, 128), 1127);
        c.due("put(0, 0, 255)", x.put(0, 0, 255), 872);
        c.due("put(0, 0, 256)", x.put(0, 0, 256), 999);
        c.due("put(0, 0, -129)", x.put(0, 0, -129), 1000);
        c.due("put(0, 0, 0)", x.put(0, 0, 0), 1127);
        c.finding("put(0, 2, 1)", x, x.put(0, 2, 1), 2);
        c.finding("put(0, -1, 1)", x, x.put(0, -1, 1), 2);
        c.due("put(4, 0, 1)", x.put(4, 0, 1), FeltCold.BAD);
        c.due("put(-1, 0, 1)", x.put(-1, 0, 1), FeltCold.BAD);
        c.due("put(0, 1, 1)", x.put(0, 1, 1), 1032);
        c.due("put does not change asked()", x.asked(), 0);
    }
}
