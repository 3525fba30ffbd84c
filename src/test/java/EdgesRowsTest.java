/** Promises 1 to 9, edge by edge: a new object, ROWS, TEXTS. */
public final class EdgesRowsTest {
    private static final int LEAST = Lived.LEAST, GREATEST = Lived.GREATEST;
    private static final int NOTHING = 1, BEYOND = 2, NOUGHT = 4, SIZE = 5;

    public static void main(String[] args) throws IllegalAccessException {
        Cases.run(EdgesRowsTest.class);
    }

    // ---- 1 a new object

    private static void p01_new_allCountsAre0(Case c) {
        FeltCold x = new FeltCold();
        for (int what = 0; what <= 10; what++) {
            c.due("count(" + what + ")", x.count(what), 0);
        }
    }

    private static void p01_new_allSixRowsAreMissing(Case c) {
        for (int r = 0; r <= 5; r++) {
            int row = r;
            c.found("tear(" + r + ")", FeltCold::new, x -> x.tear(row), NOTHING);
        }
    }

    private static void p01_new_allFourTextsAreMissing(Case c) {
        for (int t = 0; t <= 3; t++) {
            int text = t;
            c.found("fault(" + t + ")", FeltCold::new, x -> x.fault(text), NOTHING);
        }
    }

    private static void p01_new_noRooms(Case c) {
        c.bad("room(0, 0)", FeltCold::new, x -> x.room(0, 0));
    }

    private static void p01_new_noMembers(Case c) {
        c.bad("member(0, 0)", FeltCold::new, x -> x.member(0, 0));
    }

    private static void p01_new_noKeptTowns(Case c) {
        for (int k = 0; k <= 2; k++) {
            int place = k;
            c.found("on(" + k + ")", FeltCold::new, x -> x.on(place), NOTHING);
        }
    }

    private static void p01_new_nothingToldYet(Case c) {
        FeltCold x = new FeltCold();
        c.due("asked()", x.asked(), 0);
        c.due("upper()", x.upper(), 0);
        c.due("lower()", x.lower(), 1);
        c.due("finding()", x.finding(), 0);
        for (int f = 1; f <= 5; f++) {
            c.due("findings(" + f + ")", x.findings(f), 0);
        }
    }

    private static void p01_new_objectsShareNothing(Case c) {
        long before = new FeltCold().digest();
        Lived.town();
        Lived.full();
        FeltCold x = new FeltCold();
        c.due("digest() beside others", x.digest(), before);
        FeltCold other = new FeltCold();
        other.row(0, 40);
        other.tear(5);
        c.due("digest() beside another's row", x.digest(), before);
        c.due("findings(1) beside another's", x.findings(1), 0);
    }

    // ---- 2 row

    private static void p02_row_size0IsTaken(Case c) {
        FeltCold x = new FeltCold();
        c.due("row(0, 0)", x.row(0, 0), 0);
        c.due("count(8)", x.count(8), 1);
        c.finding("at(0, 0)", x, x.at(0, 0), BEYOND);
    }

    private static void p02_row_size40IsTaken(Case c) {
        FeltCold x = new FeltCold();
        c.due("row(0, 40)", x.row(0, 40), 40);
        for (int i = 0; i < 40; i++) {
            c.told("at(0, " + i + ")", x, x.at(0, i), 1, 0);
        }
        c.finding("at(0, 40)", x, x.at(0, 40), BEYOND);
    }

    private static void p02_row_size41IsBad(Case c) {
        c.bad("row(0, 41)", Lived::town, x -> x.row(0, 41));
        c.bad("row(4, 41) of a missing one", Lived::town, x -> x.row(4, 41));
    }

    private static void p02_row_greatestSizeIsBad(Case c) {
        c.bad("row(0, greatest)", Lived::town, x -> x.row(0, GREATEST));
    }

    private static void p02_row_sizeBelow0IsSize(Case c) {
        c.found("row(0, -1)", Lived::town, x -> x.row(0, -1), SIZE);
        c.found("row(4, -1) of a missing one", Lived::town, x -> x.row(4, -1), SIZE);
    }

    private static void p02_row_leastSizeIsSize(Case c) {
        c.found("row(0, least)", Lived::town, x -> x.row(0, LEAST), SIZE);
    }

    private static void p02_row_rows0And5AreTaken(Case c) {
        FeltCold x = new FeltCold();
        c.due("row(0, 1)", x.row(0, 1), 1);
        c.due("row(5, 2)", x.row(5, 2), 2);
        c.due("count(8)", x.count(8), 2);
    }

    private static void p02_row_rowsBeyondAreBad(Case c) {
        c.bad("row(-1, 1)", Lived::town, x -> x.row(-1, 1));
        c.bad("row(6, 1)", Lived::town, x -> x.row(6, 1));
        c.bad("row(least, 1)", Lived::town, x -> x.row(LEAST, 1));
        c.bad("row(greatest, 1)", Lived::town, x -> x.row(GREATEST, 1));
    }

    private static void p02_row_badAheadOfSize(Case c) {
        c.bad("row(6, -1)", Lived::town, x -> x.row(6, -1));
        c.bad("row(-1, least)", Lived::town, x -> x.row(-1, LEAST));
    }

    private static void p02_row_oneThatIsThereBegins0Anew(Case c) {
        FeltCold x = new FeltCold();
        Check.lay(x, 0, 7, 8, 9);
        c.due("row(0, 1)", x.row(0, 1), 1);
        c.told("at(0, 0)", x, x.at(0, 0), 1, 0);
        c.finding("at(0, 1)", x, x.at(0, 1), BEYOND);
        c.due("row(0, 3)", x.row(0, 3), 3);
        for (int i = 0; i < 3; i++) {
            c.told("at(0, " + i + ")", x, x.at(0, i), 1, 0);
        }
        c.due("count(8)", x.count(8), 1);
    }

    private static void p02_row_allSixFullAreHeldApart(Case c) {
        FeltCold x = new FeltCold();
        for (int r = 0; r < 6; r++) {
            c.due("row(" + r + ", 40)", x.row(r, 40), 40);
            x.lay(r, 0, 10 * r + 1);
            x.lay(r, 39, 10 * r + 2);
        }
        c.due("count(8)", x.count(8), 6);
        for (int r = 0; r < 6; r++) {
            c.told("at(" + r + ", 0)", x, x.at(r, 0), 1, 10 * r + 1);
            c.told("at(" + r + ", 39)", x, x.at(r, 39), 1, 10 * r + 2);
        }
    }

    private static void p02_row_tellsNothing(Case c) {
        c.tellsNothing("row(0, 5)", Lived::town, x -> x.row(0, 5));
    }

    // ---- 3 lay

    private static void p03_lay_firstAndLastPlaceAreTaken(Case c) {
        FeltCold x = new FeltCold();
        x.row(0, 40);
        c.told("lay(0, 0, 3)", x, x.lay(0, 0, 3), 1, 0);
        c.told("lay(0, 39, 4)", x, x.lay(0, 39, 4), 1, 0);
        c.told("at(0, 0)", x, x.at(0, 0), 1, 3);
        c.told("at(0, 39)", x, x.at(0, 39), 1, 4);
        c.told("at(0, 1)", x, x.at(0, 1), 1, 0);
        c.told("at(0, 38)", x, x.at(0, 38), 1, 0);
    }

    private static void p03_lay_tellsWhatItWasNotWhatItIs(Case c) {
        FeltCold x = new FeltCold();
        x.row(0, 1);
        c.told("lay(0, 0, 5)", x, x.lay(0, 0, 5), 1, 0);
        c.told("lay(0, 0, 5) again", x, x.lay(0, 0, 5), 1, 5);
        c.told("lay(0, 0, -5)", x, x.lay(0, 0, -5), 1, 5);
    }

    private static void p03_lay_leastAndGreatestValueAreTaken(Case c) {
        FeltCold x = new FeltCold();
        x.row(0, 1);
        c.told("lay(0, 0, least)", x, x.lay(0, 0, LEAST), 1, 0);
        c.told("lay(0, 0, greatest)", x, x.lay(0, 0, GREATEST), 1, LEAST);
        c.told("at(0, 0)", x, x.at(0, 0), 1, GREATEST);
    }

    private static void p03_lay_placesThatThereAreNotAreBeyond(Case c) {
        c.found("lay(0, 4, 1)", Lived::town, x -> x.lay(0, 4, 1), BEYOND);
        c.found("lay(0, -1, 1)", Lived::town, x -> x.lay(0, -1, 1), BEYOND);
        c.found("lay(0, 39, 1)", Lived::town, x -> x.lay(0, 39, 1), BEYOND);
        c.found("lay(0, 40, 1)", Lived::town, x -> x.lay(0, 40, 1), BEYOND);
        c.found("lay(0, least, 1)", Lived::town, x -> x.lay(0, LEAST, 1), BEYOND);
        c.found("lay(0, greatest, 1)", Lived::town, x -> x.lay(0, GREATEST, 1), BEYOND);
    }

    private static void p03_lay_emptyRowHasNoPlace(Case c) {
        c.found("lay(2, 0, 1)", Lived::town, x -> x.lay(2, 0, 1), BEYOND);
    }

    private static void p03_lay_missingIsNothingAheadOfBeyond(Case c) {
        c.found("lay(4, 0, 1)", Lived::town, x -> x.lay(4, 0, 1), NOTHING);
        c.found("lay(4, -1, 1)", Lived::town, x -> x.lay(4, -1, 1), NOTHING);
        c.found("lay(4, 40, 1)", Lived::town, x -> x.lay(4, 40, 1), NOTHING);
    }

    private static void p03_lay_rowsBeyondAreBad(Case c) {
        c.bad("lay(-1, 0, 1)", Lived::town, x -> x.lay(-1, 0, 1));
        c.bad("lay(6, 0, 1)", Lived::town, x -> x.lay(6, 0, 1));
        c.bad("lay(6, -1, 1)", Lived::town, x -> x.lay(6, -1, 1));
        c.bad("lay(least, 0, 1)", Lived::town, x -> x.lay(LEAST, 0, 1));
    }

    // ---- 4 at

    private static void p04_at_firstAndLastPlaceAreTaken(Case c) {
        FeltCold x = new FeltCold();
        Check.lay(x, 5, 11, 12, 13);
        c.told("at(5, 0)", x, x.at(5, 0), 1, 11);
        c.told("at(5, 2)", x, x.at(5, 2), 1, 13);
    }

    private static void p04_at_placesThatThereAreNotAreBeyond(Case c) {
        c.found("at(0, 4)", Lived::town, x -> x.at(0, 4), BEYOND);
        c.found("at(0, -1)", Lived::town, x -> x.at(0, -1), BEYOND);
        c.found("at(0, 39)", Lived::town, x -> x.at(0, 39), BEYOND);
        c.found("at(0, least)", Lived::town, x -> x.at(0, LEAST), BEYOND);
        c.found("at(0, greatest)", Lived::town, x -> x.at(0, GREATEST), BEYOND);
    }

    private static void p04_at_emptyRowHasNoPlace(Case c) {
        c.found("at(2, 0)", Lived::town, x -> x.at(2, 0), BEYOND);
    }

    private static void p04_at_missingIsNothingAheadOfBeyond(Case c) {
        c.found("at(4, 0)", Lived::town, x -> x.at(4, 0), NOTHING);
        c.found("at(5, -1)", Lived::town, x -> x.at(5, -1), NOTHING);
    }

    private static void p04_at_rowsBeyondAreBad(Case c) {
        c.bad("at(-1, 0)", Lived::town, x -> x.at(-1, 0));
        c.bad("at(6, 0)", Lived::town, x -> x.at(6, 0));
        c.bad("at(6, -1)", Lived::town, x -> x.at(6, -1));
        c.bad("at(greatest, 0)", Lived::town, x -> x.at(GREATEST, 0));
    }

    private static void p04_at_changesNothing(Case c) {
        c.changesNothing("at(0, 1)", Lived::town, x -> x.at(0, 1));
    }

    // ---- 5 tear

    private static void p05_tear_rows0And5AreTaken(Case c) {
        FeltCold x = new FeltCold();
        x.row(0, 1);
        x.row(5, 40);
        c.due("tear(0)", x.tear(0), 1);
        c.due("count(8)", x.count(8), 1);
        c.due("tear(5)", x.tear(5), 1);
        c.due("count(8)", x.count(8), 0);
    }

    private static void p05_tear_emptyRowIsThere(Case c) {
        FeltCold x = new FeltCold();
        x.row(3, 0);
        c.due("tear(3)", x.tear(3), 1);
        c.due("count(8)", x.count(8), 0);
    }

    private static void p05_tear_missingIsNothing(Case c) {
        c.found("tear(4)", Lived::town, x -> x.tear(4), NOTHING);
    }

    private static void p05_tear_tornOneIsMissing(Case c) {
        FeltCold x = new FeltCold();
        x.row(3, 2);
        x.tear(3);
        c.finding("tear(3) again", x, x.tear(3), NOTHING);
        c.finding("at(3, 0)", x, x.at(3, 0), NOTHING);
        c.finding("lay(3, 0, 1)", x, x.lay(3, 0, 1), NOTHING);
        c.finding("mean(3)", x, x.mean(3), NOTHING);
        c.finding("copy(3, ..)", x, x.copy(3, 0, 3, 0, 0), NOTHING);
    }

    private static void p05_tear_oneMadeAgainBegins0(Case c) {
        FeltCold x = new FeltCold();
        Check.lay(x, 3, 5, 6);
        x.tear(3);
        x.row(3, 2);
        c.told("at(3, 0)", x, x.at(3, 0), 1, 0);
        c.told("at(3, 1)", x, x.at(3, 1), 1, 0);
    }

    private static void p05_tear_othersStay(Case c) {
        FeltCold x = new FeltCold();
        Check.lay(x, 2, 5);
        Check.lay(x, 3, 6);
        Check.lay(x, 4, 7);
        x.tear(3);
        c.told("at(2, 0)", x, x.at(2, 0), 1, 5);
        c.told("at(4, 0)", x, x.at(4, 0), 1, 7);
    }

    private static void p05_tear_rowsBeyondAreBad(Case c) {
        c.bad("tear(-1)", Lived::town, x -> x.tear(-1));
        c.bad("tear(6)", Lived::town, x -> x.tear(6));
        c.bad("tear(least)", Lived::town, x -> x.tear(LEAST));
        c.bad("tear(greatest)", Lived::town, x -> x.tear(GREATEST));
    }

    private static void p05_tear_tellsNothing(Case c) {
        c.tellsNothing("tear(0)", Lived::town, x -> x.tear(0));
    }

    // ---- 6 copy

    private static void places(Case c, FeltCold x, int r, int... want) {
        for (int i = 0; i < want.length; i++) {
            c.told("at(" + r + ", " + i + ")", x, x.at(r, i), 1, want[i]);
        }
        c.finding("at(" + r + ", size)", x, x.at(r, want.length), BEYOND);
    }

    private static void p06_copy_noneIsTakenAtBothEnds(Case c) {
        c.changesNothing("copy(0, 0, 1, 0, 0)", Lived::town, x -> x.copy(0, 0, 1, 0, 0));
        c.changesNothing("copy(0, 4, 1, 4, 0)", Lived::town, x -> x.copy(0, 4, 1, 4, 0));
    }

    private static void p06_copy_noneIsTakenInEmptyRows(Case c) {
        c.changesNothing("copy(2, 0, 2, 0, 0)", Lived::town, x -> x.copy(2, 0, 2, 0, 0));
    }

    private static void p06_copy_noneBehindTheEndIsBeyond(Case c) {
        c.found("copy(0, 5, 1, 0, 0)", Lived::town, x -> x.copy(0, 5, 1, 0, 0), BEYOND);
        c.found("copy(0, 0, 1, 5, 0)", Lived::town, x -> x.copy(0, 0, 1, 5, 0), BEYOND);
        c.found("copy(2, 1, 2, 0, 0)", Lived::town, x -> x.copy(2, 1, 2, 0, 0), BEYOND);
    }

    private static void p06_copy_allOf40AreTaken(Case c) {
        FeltCold x = new FeltCold();
        x.row(0, 40);
        x.row(5, 40);
        for (int i = 0; i < 40; i++) {
            x.lay(0, i, i + 1);
        }
        c.due("copy(0, 0, 5, 0, 40)", x.copy(0, 0, 5, 0, 40), 1);
        for (int i = 0; i < 40; i++) {
            c.told("at(5, " + i + ")", x, x.at(5, i), 1, i + 1);
        }
        c.finding("copy(0, 0, 5, 0, 41)", x, x.copy(0, 0, 5, 0, 41), BEYOND);
        c.finding("copy(0, 1, 5, 0, 40)", x, x.copy(0, 1, 5, 0, 40), BEYOND);
        c.finding("copy(0, 0, 5, 1, 40)", x, x.copy(0, 0, 5, 1, 40), BEYOND);
    }

    private static void p06_copy_lastPlaceIsTaken(Case c) {
        FeltCold x = new FeltCold();
        Check.lay(x, 0, 1, 2, 3);
        Check.lay(x, 1, 7, 8);
        c.due("copy(0, 2, 1, 1, 1)", x.copy(0, 2, 1, 1, 1), 1);
        places(c, x, 1, 7, 3);
        places(c, x, 0, 1, 2, 3);
    }

    private static void p06_copy_oneMoreThanThereIsBeyond(Case c) {
        c.found("copy(0, 3, 1, 0, 2)", Lived::town, x -> x.copy(0, 3, 1, 0, 2), BEYOND);
        c.found("copy(0, 0, 1, 3, 2)", Lived::town, x -> x.copy(0, 0, 1, 3, 2), BEYOND);
        c.found("copy(0, 0, 3, 0, 2)", Lived::town, x -> x.copy(0, 0, 3, 0, 2), BEYOND);
    }

    private static void p06_copy_placesBelow0AreBeyond(Case c) {
        c.found("copy(0, -1, 1, 0, 1)", Lived::town, x -> x.copy(0, -1, 1, 0, 1), BEYOND);
        c.found("copy(0, 0, 1, -1, 1)", Lived::town, x -> x.copy(0, 0, 1, -1, 1), BEYOND);
        c.found("copy(0, -1, 1, 0, 0)", Lived::town, x -> x.copy(0, -1, 1, 0, 0), BEYOND);
        c.found("copy(0, least, 1, 0, 1)", Lived::town, x -> x.copy(0, LEAST, 1, 0, 1), BEYOND);
        c.found("copy(0, 0, 1, least, 1)", Lived::town, x -> x.copy(0, 0, 1, LEAST, 1), BEYOND);
    }

    private static void p06_copy_numbersThatWrapAroundAreBeyond(Case c) {
        c.found("copy(0, greatest, 1, 0, 1)", Lived::town, x -> x.copy(0, GREATEST, 1, 0, 1), BEYOND);
        c.found("copy(0, 1, 1, 1, greatest)", Lived::town, x -> x.copy(0, 1, 1, 1, GREATEST), BEYOND);
        c.found("copy(0, 0, 1, greatest, 2)", Lived::town, x -> x.copy(0, 0, 1, GREATEST, 2), BEYOND);
        c.found("copy(0, greatest, 1, greatest, greatest)", Lived::town,
            x -> x.copy(0, GREATEST, 1, GREATEST, GREATEST), BEYOND);
        c.found("copy(0, least, 1, least, greatest)", Lived::town,
            x -> x.copy(0, LEAST, 1, LEAST, GREATEST), BEYOND);
    }

    private static void p06_copy_fewerThanNoneIsSize(Case c) {
        c.found("copy(0, 0, 1, 0, -1)", Lived::town, x -> x.copy(0, 0, 1, 0, -1), SIZE);
        c.found("copy(0, 0, 1, 0, least)", Lived::town, x -> x.copy(0, 0, 1, 0, LEAST), SIZE);
    }

    private static void p06_copy_sizeAheadOfNothingAndBeyond(Case c) {
        c.found("copy(4, 0, 1, 0, -1)", Lived::town, x -> x.copy(4, 0, 1, 0, -1), SIZE);
        c.found("copy(0, 0, 4, 0, -1)", Lived::town, x -> x.copy(0, 0, 4, 0, -1), SIZE);
        c.found("copy(0, 9, 1, 9, -1)", Lived::town, x -> x.copy(0, 9, 1, 9, -1), SIZE);
    }

    private static void p06_copy_eitherMissingIsNothingAheadOfBeyond(Case c) {
        c.found("copy(4, 0, 0, 0, 1)", Lived::town, x -> x.copy(4, 0, 0, 0, 1), NOTHING);
        c.found("copy(0, 0, 4, 0, 1)", Lived::town, x -> x.copy(0, 0, 4, 0, 1), NOTHING);
        c.found("copy(4, 0, 5, 0, 0)", Lived::town, x -> x.copy(4, 0, 5, 0, 0), NOTHING);
        c.found("copy(0, 9, 4, 9, 9)", Lived::town, x -> x.copy(0, 9, 4, 9, 9), NOTHING);
        c.found("copy(4, 9, 0, 9, 9)", Lived::town, x -> x.copy(4, 9, 0, 9, 9), NOTHING);
    }

    private static void p06_copy_rowsBeyondAreBad(Case c) {
        c.bad("copy(-1, 0, 0, 0, 0)", Lived::town, x -> x.copy(-1, 0, 0, 0, 0));
        c.bad("copy(6, 0, 0, 0, 0)", Lived::town, x -> x.copy(6, 0, 0, 0, 0));
        c.bad("copy(0, 0, -1, 0, 0)", Lived::town, x -> x.copy(0, 0, -1, 0, 0));
        c.bad("copy(0, 0, 6, 0, 0)", Lived::town, x -> x.copy(0, 0, 6, 0, 0));
    }

    private static void p06_copy_badAheadOfFindings(Case c) {
        c.bad("copy(6, 0, 0, 0, -1)", Lived::town, x -> x.copy(6, 0, 0, 0, -1));
        c.bad("copy(4, 0, 6, 0, 0)", Lived::town, x -> x.copy(4, 0, 6, 0, 0));
        c.bad("copy(6, 0, 4, 0, 0)", Lived::town, x -> x.copy(6, 0, 4, 0, 0));
        c.bad("copy(0, 9, 6, 9, 9)", Lived::town, x -> x.copy(0, 9, 6, 9, 9));
    }

    private static void p06_copy_intoItselfOnAsIfTakenAhead(Case c) {
        FeltCold x = new FeltCold();
        Check.lay(x, 0, 1, 2, 3, 4, 5);
        c.due("copy(0, 0, 0, 1, 4)", x.copy(0, 0, 0, 1, 4), 1);
        places(c, x, 0, 1, 1, 2, 3, 4);
    }

    private static void p06_copy_intoItselfBackAsIfTakenAhead(Case c) {
        FeltCold x = new FeltCold();
        Check.lay(x, 0, 1, 2, 3, 4, 5);
        c.due("copy(0, 1, 0, 0, 4)", x.copy(0, 1, 0, 0, 4), 1);
        places(c, x, 0, 2, 3, 4, 5, 5);
    }

    private static void p06_copy_intoItselfInPlace(Case c) {
        c.changesNothing("copy(0, 0, 0, 0, 4)", Lived::town, x -> x.copy(0, 0, 0, 0, 4));
    }

    private static void p06_copy_tellsNothing(Case c) {
        c.tellsNothing("copy(0, 0, 1, 1, 3)", Lived::town, x -> x.copy(0, 0, 1, 1, 3));
    }

    // ---- 7 mean

    private static void mean(Case c, int want, int... places) {
        FeltCold x = new FeltCold();
        Check.lay(x, 0, places);
        c.told("mean of " + java.util.Arrays.toString(places), x, x.mean(0), 1, want);
    }

    private static void p07_mean_ofOneInt(Case c) {
        mean(c, 0, 0);
        mean(c, 7, 7);
        mean(c, LEAST, LEAST);
        mean(c, GREATEST, GREATEST);
    }

    private static void p07_mean_cutAbove0(Case c) {
        mean(c, 1, 1, 2);
        mean(c, 2, 2, 3, 3);
        mean(c, 0, 0, 0, 2);
        mean(c, 3, 3, 3, 3);
    }

    private static void p07_mean_cutBelow0(Case c) {
        mean(c, -1, -1, -2);
        mean(c, -2, -2, -3, -3);
        mean(c, 0, 0, -1);
        mean(c, -3, -3, -3);
    }

    private static void p07_mean_sumsBeyondIntDoNotWrapAround(Case c) {
        mean(c, GREATEST, GREATEST, GREATEST);
        mean(c, LEAST, LEAST, LEAST);
        mean(c, 0, LEAST, GREATEST);
        mean(c, GREATEST - 1, GREATEST, GREATEST - 1);
        int[] places = new int[40];
        java.util.Arrays.fill(places, GREATEST);
        mean(c, GREATEST, places);
        java.util.Arrays.fill(places, LEAST);
        mean(c, LEAST, places);
    }

    private static void p07_mean_of40CountsEachPlace(Case c) {
        int[] places = new int[40];
        places[39] = 40;
        mean(c, 1, places);
        places[39] = 39;
        mean(c, 0, places);
        places[0] = 1;
        mean(c, 1, places);
    }

    private static void p07_mean_emptyIsNought(Case c) {
        c.found("mean(2)", Lived::town, x -> x.mean(2), NOUGHT);
    }

    private static void p07_mean_missingIsNothing(Case c) {
        c.found("mean(4)", Lived::town, x -> x.mean(4), NOTHING);
    }

    private static void p07_mean_rowsBeyondAreBad(Case c) {
        c.bad("mean(-1)", Lived::town, x -> x.mean(-1));
        c.bad("mean(6)", Lived::town, x -> x.mean(6));
        c.bad("mean(least)", Lived::town, x -> x.mean(LEAST));
        c.bad("mean(greatest)", Lived::town, x -> x.mean(GREATEST));
    }

    private static void p07_mean_changesNothing(Case c) {
        c.changesNothing("mean(0)", Lived::town, x -> x.mean(0));
    }

    private static void p07_mean_isNotToldByUpper(Case c) {
        FeltCold x = Lived.town();
        long upper = x.upper();
        long lower = x.lower();
        x.mean(0);
        c.due("upper()", x.upper(), upper);
        c.due("lower()", x.lower(), lower);
    }

    // ---- 8 text

    private static void p08_text_size0IsTaken(Case c) {
        FeltCold x = new FeltCold();
        c.due("text(0, 0)", x.text(0, 0), 0);
        c.due("count(9)", x.count(9), 1);
        c.finding("put(0, 0, 1)", x, x.put(0, 0, 1), BEYOND);
    }

    private static void p08_text_size60IsTakenAllBlanks(Case c) {
        FeltCold x = new FeltCold();
        c.due("text(3, 60)", x.text(3, 60), 60);
        for (int i = 0; i < 60; i++) {
            c.due("put(3, " + i + ", 65)", x.put(3, i, 65), 1032);
        }
        c.finding("put(3, 60, 65)", x, x.put(3, 60, 65), BEYOND);
    }

    private static void p08_text_size61IsBad(Case c) {
        c.bad("text(0, 61)", Lived::town, x -> x.text(0, 61));
        c.bad("text(3, 61) of a missing one", Lived::town, x -> x.text(3, 61));
        c.bad("text(0, greatest)", Lived::town, x -> x.text(0, GREATEST));
    }

    private static void p08_text_sizeBelow0IsSize(Case c) {
        c.found("text(0, -1)", Lived::town, x -> x.text(0, -1), SIZE);
        c.found("text(3, -1) of a missing one", Lived::town, x -> x.text(3, -1), SIZE);
        c.found("text(0, least)", Lived::town, x -> x.text(0, LEAST), SIZE);
    }

    private static void p08_text_textsBeyondAreBad(Case c) {
        c.bad("text(-1, 1)", Lived::town, x -> x.text(-1, 1));
        c.bad("text(4, 1)", Lived::town, x -> x.text(4, 1));
        c.bad("text(least, 1)", Lived::town, x -> x.text(LEAST, 1));
        c.bad("text(greatest, 1)", Lived::town, x -> x.text(GREATEST, 1));
    }

    private static void p08_text_badAheadOfSize(Case c) {
        c.bad("text(4, -1)", Lived::town, x -> x.text(4, -1));
        c.bad("text(-1, least)", Lived::town, x -> x.text(-1, LEAST));
    }

    private static void p08_text_oneThatIsThereIsBlankAnew(Case c) {
        FeltCold x = new FeltCold();
        Check.write(x, 1, "abc");
        c.due("text(1, 1)", x.text(1, 1), 1);
        c.finding("put(1, 1, 1)", x, x.put(1, 1, 1), BEYOND);
        c.due("text(1, 3)", x.text(1, 3), 3);
        for (int i = 0; i < 3; i++) {
            c.due("put(1, " + i + ", 1)", x.put(1, i, 1), 1032);
        }
        c.due("count(9)", x.count(9), 1);
    }

    private static void p08_text_allFourAreHeldApart(Case c) {
        FeltCold x = new FeltCold();
        for (int t = 0; t < 4; t++) {
            x.text(t, 60);
            x.put(t, 0, 10 * t + 1);
            x.put(t, 59, 10 * t + 2);
        }
        c.due("count(9)", x.count(9), 4);
        for (int t = 0; t < 4; t++) {
            c.due("put(" + t + ", 0, 0)", x.put(t, 0, 0), 1001 + 10 * t);
            c.due("put(" + t + ", 59, 0)", x.put(t, 59, 0), 1002 + 10 * t);
        }
    }

    private static void p08_text_tellsNothing(Case c) {
        c.tellsNothing("text(0, 5)", Lived::town, x -> x.text(0, 5));
    }

    // ---- 9 put

    private static void p09_put_firstAndLastByteAreTaken(Case c) {
        FeltCold x = new FeltCold();
        x.text(0, 60);
        c.due("put(0, 0, 1)", x.put(0, 0, 1), 1032);
        c.due("put(0, 59, 2)", x.put(0, 59, 2), 1032);
        c.due("put(0, 0, 0)", x.put(0, 0, 0), 1001);
        c.due("put(0, 59, 0)", x.put(0, 59, 0), 1002);
    }

    private static void p09_put_leastAndGreatestByteAreTaken(Case c) {
        FeltCold x = new FeltCold();
        x.text(0, 1);
        x.put(0, 0, -128);
        c.due("put behind -128", x.put(0, 0, 127), 872);
        c.due("put behind 127", x.put(0, 0, 0), 1127);
        c.due("put behind 0", x.put(0, 0, -1), 1000);
        c.due("put behind -1", x.put(0, 0, 0), 999);
    }

    private static void p09_put_numbersBeyondAByteWrapAround(Case c) {
        int[][] cut = {{128, -128}, {-129, 127}, {255, -1}, {256, 0}, {-256, 0}, {257, 1}, {370, 114},
            {GREATEST, -1}, {LEAST, 0}, {LEAST + 127, 127}, {LEAST + 128, -128}};
        FeltCold x = new FeltCold();
        x.text(0, 1);
        for (int[] pair : cut) {
            x.put(0, 0, pair[0]);
            c.due("put behind " + pair[0], x.put(0, 0, 32), 1000 + pair[1]);
        }
    }

    private static void p09_put_bytesThatThereAreNotAreBeyond(Case c) {
        c.found("put(1, 5, 1)", Lived::town, x -> x.put(1, 5, 1), BEYOND);
        c.found("put(1, -1, 1)", Lived::town, x -> x.put(1, -1, 1), BEYOND);
        c.found("put(1, 59, 1)", Lived::town, x -> x.put(1, 59, 1), BEYOND);
        c.found("put(1, 60, 1)", Lived::town, x -> x.put(1, 60, 1), BEYOND);
        c.found("put(1, least, 1)", Lived::town, x -> x.put(1, LEAST, 1), BEYOND);
        c.found("put(1, greatest, 1)", Lived::town, x -> x.put(1, GREATEST, 1), BEYOND);
    }

    private static void p09_put_emptyTextHasNoByte(Case c) {
        c.found("put(2, 0, 1)", Lived::town, x -> x.put(2, 0, 1), BEYOND);
    }

    private static void p09_put_missingIsNothingAheadOfBeyond(Case c) {
        c.found("put(3, 0, 1)", Lived::town, x -> x.put(3, 0, 1), NOTHING);
        c.found("put(3, -1, 1)", Lived::town, x -> x.put(3, -1, 1), NOTHING);
        c.found("put(3, 60, 1)", Lived::town, x -> x.put(3, 60, 1), NOTHING);
    }

    private static void p09_put_textsBeyondAreBad(Case c) {
        c.bad("put(-1, 0, 1)", Lived::town, x -> x.put(-1, 0, 1));
        c.bad("put(4, 0, 1)", Lived::town, x -> x.put(4, 0, 1));
        c.bad("put(4, -1, 1)", Lived::town, x -> x.put(4, -1, 1));
        c.bad("put(greatest, 0, 1)", Lived::town, x -> x.put(GREATEST, 0, 1));
    }

    private static void p09_put_tellsNothing(Case c) {
        c.tellsNothing("put(0, 0, 5)", Lived::town, x -> x.put(0, 0, 5));
    }
}
