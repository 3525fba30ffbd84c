/** Promises 33 to 38, edge by edge: records, COLDS that go round, least SOUP. */
public final class EdgesRecordsTest {
    private static final int LEAST = Lived.LEAST, GREATEST = Lived.GREATEST;
    private static final int ALL = GREATEST, ALL_SHIFTS = 2047, ALL_KINDS = 63;
    private static final int NOTHING = 1, UNLIKE = 3, SIZE = 5;

    public static void main(String[] args) throws IllegalAccessException {
        Cases.run(EdgesRecordsTest.class);
    }

    /** The lived TOWN with ROW 5 as told. */
    private static FeltCold with(int... places) {
        FeltCold x = Lived.town();
        Check.lay(x, 5, places);
        x.member(0, 6);
        return x;
    }

    /** So many pairs of the same. */
    private static int[] pairs(int n, int first, int second) {
        int[] places = new int[2 * n];
        for (int k = 0; k < places.length; k += 2) {
            places[k] = first;
            places[k + 1] = second;
        }
        return places;
    }

    // ---- 33 fits

    private static void fits(Case c, String town, int want, int... record) {
        FeltCold x = Check.town(town);
        Check.lay(x, 0, record);
        c.told("fits " + java.util.Arrays.toString(record), x, x.fits(0), want, Integer.bitCount(want));
    }

    private static void p33_fits_noPairsAreAllDegrees(Case c) {
        fits(c, "r1531o1500", ALL);
        FeltCold x = Lived.town();
        c.told("fits(2)", x, x.fits(2), ALL, 31);
    }

    private static void p33_fits_onePair(Case c) {
        fits(c, "r0031o1500", Check.range(15, 30), 0, 1);
        fits(c, "r0031o1500", Check.range(0, 14), 0, 0);
    }

    private static void p33_fits_most20Pairs(Case c) {
        fits(c, "r0031o1500", Check.range(15, 30), pairs(20, 0, 1));
        int[] record = pairs(20, 0, 1);
        record[39] = 0;
        fits(c, "r0031o1500", 0, record);
    }

    private static void p33_fits_degree0AndDegree30Alone(Case c) {
        fits(c, "r1531o0100", 1, 0, 0);
        fits(c, "r1531o3000", 1 << 30, 0, 1);
    }

    private static void p33_fits_byNoDegree(Case c) {
        fits(c, "r1531o1000o2000", 0, 1, 1, 0, 0);
        fits(c, "r1531o1000", 0, 0, 1, 0, 0);
    }

    private static void p33_fits_firstAndLastMember(Case c) {
        fits(c, "r1531o0500o0000o0000o0000o0000s1000", Check.range(5, 10), 0, 1, 5, 1);
    }

    private static void p33_fits_neitherRoomsNorColdsMatter(Case c) {
        FeltCold x = Check.town("r0031r3031o1500s2001");
        x.cold(0);
        x.cold(1);
        Check.lay(x, 0, 0, 1, 1, 1);
        c.told("fits(0)", x, x.fits(0), Check.range(15, 20), 6);
    }

    private static void p33_fits_rowsBeyondAreBad(Case c) {
        c.bad("fits(-1)", Lived::town, x -> x.fits(-1));
        c.bad("fits(6)", Lived::town, x -> x.fits(6));
        c.bad("fits(least)", Lived::town, x -> x.fits(LEAST));
        c.bad("fits(greatest)", Lived::town, x -> x.fits(GREATEST));
    }

    private static void p33_fits_badAheadOfState(Case c) {
        c.bad("fits(-1)", Lived::without, x -> x.fits(-1));
        c.bad("fits(6)", Lived::without, x -> x.fits(6));
    }

    private static void p33_fits_noMembersIsStateAheadOfFindings(Case c) {
        c.state("fits(0)", Lived::without, x -> x.fits(0));
        c.state("fits(2) of no pairs", Lived::without, x -> x.fits(2));
        c.state("fits(4) of a missing one", Lived::without, x -> x.fits(4));
        c.state("fits(3) not by pairs", Lived::without, x -> x.fits(3));
    }

    private static void p33_fits_missingIsNothing(Case c) {
        c.found("fits(4)", Lived::town, x -> x.fits(4), NOTHING);
    }

    private static void p33_fits_notByPairsIsSizeAheadOfUnlike(Case c) {
        c.found("fits(3)", Lived::town, x -> x.fits(3), SIZE);
        c.found("fits of 1", () -> with(0), x -> x.fits(5), SIZE);
        c.found("fits of 39", () -> with(new int[39]), x -> x.fits(5), SIZE);
        c.found("fits of 3 unlike ones", () -> with(9, 9, 9), x -> x.fits(5), SIZE);
    }

    private static void p33_fits_noMemberIsUnlike(Case c) {
        c.found("fits of 6", () -> with(6, 1), x -> x.fits(5), UNLIKE);
        c.found("fits of -1", () -> with(-1, 1), x -> x.fits(5), UNLIKE);
        c.found("fits of least", () -> with(LEAST, 1), x -> x.fits(5), UNLIKE);
        c.found("fits of greatest", () -> with(GREATEST, 1), x -> x.fits(5), UNLIKE);
        c.found("fits of the next one", () -> with(0, 1, 5, 0, 6, 0), x -> x.fits(5), UNLIKE);
    }

    private static void p33_fits_no0And1IsUnlike(Case c) {
        c.found("fits of 2", () -> with(0, 2), x -> x.fits(5), UNLIKE);
        c.found("fits of -1", () -> with(0, -1), x -> x.fits(5), UNLIKE);
        c.found("fits of least", () -> with(0, LEAST), x -> x.fits(5), UNLIKE);
        c.found("fits of greatest", () -> with(0, GREATEST), x -> x.fits(5), UNLIKE);
    }

    private static void p33_fits_unlikeInTheLastPairOf20(Case c) {
        int[] record = pairs(20, 0, 1);
        record[38] = 6;
        c.found("fits", () -> with(record), x -> x.fits(5), UNLIKE);
        int[] other = pairs(20, 0, 1);
        other[39] = 2;
        c.found("fits", () -> with(other), x -> x.fits(5), UNLIKE);
    }

    private static void p33_fits_changesNothing(Case c) {
        c.changesNothing("fits(0)", Lived::town, x -> x.fits(0));
    }

    // ---- 34 tickled

    private static void tickled(Case c, String town, int want, int... record) {
        FeltCold x = Check.town(town);
        Check.lay(x, 0, record);
        c.due("tickled " + java.util.Arrays.toString(record), x.tickled(0), want);
    }

    private static void p34_tickled_noPairsIsNobody(Case c) {
        tickled(c, "r1531o1500", 0);
    }

    private static void p34_tickled_onePair(Case c) {
        tickled(c, "r1531o1500", 1, 0, 1);
        tickled(c, "r1531o1500", 1, 0, 0);
    }

    private static void p34_tickled_oneWhoAlwaysDoesItCannot(Case c) {
        tickled(c, "r1531o0000", 0, 0, 1);
        tickled(c, "r1531o0000", 1, 0, 0);
    }

    private static void p34_tickled_oneOfTwoPairsOfHis(Case c) {
        tickled(c, "r1531o1500", 0, 0, 1, 0, 1);
        tickled(c, "r1531o1500", 1, 0, 1, 0, 0);
        tickled(c, "r1531o1500", 1, 0, 1, 0, 1, 0, 0);
        tickled(c, "r1531o1500", 0, 0, 1, 0, 1, 0, 0, 0, 0);
    }

    private static void p34_tickled_most20Pairs(Case c) {
        int[] record = pairs(20, 0, 1);
        tickled(c, "r1531o1500", 0, record);
        record[39] = 0;
        tickled(c, "r1531o1500", 1, record);
        record[37] = 0;
        tickled(c, "r1531o1500", 0, record);
    }

    private static void p34_tickled_firstAndLastMember(Case c) {
        tickled(c, "r1531o1000o1000o1000o1000o1000o2000", 33, 0, 0, 5, 1);
    }

    private static void p34_tickled_allSix(Case c) {
        tickled(c, "r1531o0500o1000o1500s0500s1000s1500", 0, 0, 1, 1, 1, 2, 1, 3, 1, 4, 1, 5, 1);
        tickled(c, "r1531o1500o1500o1500o1500o1500s1500", 32, 0, 1, 1, 1, 2, 1, 3, 1, 4, 1, 5, 1);
        tickled(c, "r1531o0100o0200o0300o0400o0500o0600", 32, 0, 1, 1, 1, 2, 1, 3, 1, 4, 1, 5, 1);
    }

    private static void p34_tickled_coldsDoNotMatter(Case c) {
        FeltCold x = Check.town("r0031o1500");
        x.cold(0);
        Check.lay(x, 0, 0, 0);
        c.due("tickled(0)", x.tickled(0), 1);
    }

    private static void p34_tickled_rowsBeyondAreBad(Case c) {
        c.bad("tickled(-1)", Lived::town, x -> x.tickled(-1));
        c.bad("tickled(6)", Lived::town, x -> x.tickled(6));
        c.bad("tickled(least)", Lived::town, x -> x.tickled(LEAST));
        c.bad("tickled(greatest)", Lived::town, x -> x.tickled(GREATEST));
    }

    private static void p34_tickled_badAheadOfState(Case c) {
        c.bad("tickled(-1)", Lived::without, x -> x.tickled(-1));
        c.bad("tickled(6)", Lived::without, x -> x.tickled(6));
    }

    private static void p34_tickled_noMembersIsStateAheadOfFindings(Case c) {
        c.state("tickled(0)", Lived::without, x -> x.tickled(0));
        c.state("tickled(4) of a missing one", Lived::without, x -> x.tickled(4));
        c.state("tickled(3) not by pairs", Lived::without, x -> x.tickled(3));
    }

    private static void p34_tickled_missingIsNothing(Case c) {
        c.found("tickled(4)", Lived::town, x -> x.tickled(4), NOTHING);
    }

    private static void p34_tickled_notByPairsIsSizeAheadOfUnlike(Case c) {
        c.found("tickled(3)", Lived::town, x -> x.tickled(3), SIZE);
        c.found("tickled of 39", () -> with(new int[39]), x -> x.tickled(5), SIZE);
        c.found("tickled of 3 unlike ones", () -> with(9, 9, 9), x -> x.tickled(5), SIZE);
    }

    private static void p34_tickled_noMemberOrNo0And1IsUnlike(Case c) {
        c.found("tickled of 6", () -> with(6, 1), x -> x.tickled(5), UNLIKE);
        c.found("tickled of -1", () -> with(-1, 1), x -> x.tickled(5), UNLIKE);
        c.found("tickled by 2", () -> with(0, 2), x -> x.tickled(5), UNLIKE);
        c.found("tickled by -1", () -> with(0, -1), x -> x.tickled(5), UNLIKE);
        c.found("tickled by greatest", () -> with(0, 1, GREATEST, GREATEST), x -> x.tickled(5), UNLIKE);
    }

    private static void p34_tickled_changesAndTellsNothing(Case c) {
        c.changesNothing("tickled(0)", Lived::town, x -> x.tickled(0));
        c.tellsNothing("tickled(0)", Lived::town, x -> x.tickled(0));
    }

    // ---- 35 shifts

    private static void shifts(Case c, String town, int want, int... days) {
        FeltCold x = Check.town(town);
        Check.lay(x, 0, days);
        c.due("shifts " + java.util.Arrays.toString(days), x.shifts(0, 0), want);
    }

    private static void p35_shifts_noPairsAreAllShifts(Case c) {
        shifts(c, "r1531o1500", ALL_SHIFTS);
    }

    private static void p35_shifts_leastAndGreatestShiftAlone(Case c) {
        shifts(c, "r1531o1500", 1, 10, 1);
        shifts(c, "r1531o1500", 0, 9, 1);
        shifts(c, "r1531o1500", 1 << 10, 19, 0);
        shifts(c, "r1531o1500", 0, 20, 0);
    }

    private static void p35_shifts_degrees0And30AreTaken(Case c) {
        shifts(c, "r1531o0000", Check.range(0, 5), 0, 1);
        shifts(c, "r1531o3000", Check.range(0, 5), 30, 1);
        shifts(c, "r1531s0000", Check.range(5, 10), 0, 1);
        shifts(c, "r1531s3000", Check.range(5, 10), 30, 1);
    }

    private static void p35_shifts_byNone(Case c) {
        shifts(c, "r1531o1500", 0, 15, 1, 15, 0);
    }

    private static void p35_shifts_most20Pairs(Case c) {
        shifts(c, "r1531o1500", Check.range(0, 5), pairs(20, 15, 1));
        int[] days = pairs(20, 15, 1);
        days[39] = 0;
        shifts(c, "r1531o1500", 0, days);
    }

    private static void p35_shifts_firstAndLastMember(Case c) {
        FeltCold x = Check.town("r1531o1500o0000o0000o0000o0000s1500");
        Check.lay(x, 0, 14, 1);
        c.due("shifts(0, 0)", x.shifts(0, 0), Check.range(0, 4));
        c.due("shifts(5, 0)", x.shifts(5, 0), Check.range(4, 10));
    }

    private static void p35_shifts_hisOwnShiftAndColdDoNotMatter(Case c) {
        FeltCold x = Check.town("r1531o1500");
        Check.lay(x, 0, 15, 1);
        x.love(0, 5);
        x.cold(0);
        c.due("shifts(0, 0)", x.shifts(0, 0), Check.range(0, 5));
    }

    private static void p35_shifts_soupAndDriftDo(Case c) {
        FeltCold x = Check.town("r1531a1300o1500");
        Check.lay(x, 0, 15, 1);
        c.due("shifts(0, 0)", x.shifts(0, 0), Check.range(0, 5));
        x.soup();
        c.due("shifts(0, 0) by SOUP", x.shifts(0, 0), Check.range(0, 4));
        c.due("shifts(1, 0) by SOUP", x.shifts(1, 0), Check.range(0, 4));
        for (int h = 0; h < 6; h++) {
            x.hour();
        }
        c.due("shifts(0, 0) at HOUR 6", x.shifts(0, 0), Check.range(0, 6));
        c.due("shifts(1, 0) at HOUR 6", x.shifts(1, 0), Check.range(0, 5));
    }

    private static void p35_shifts_membersAndRowsBeyondAreBad(Case c) {
        c.bad("shifts(-1, 1)", Lived::town, x -> x.shifts(-1, 1));
        c.bad("shifts(6, 1)", Lived::town, x -> x.shifts(6, 1));
        c.bad("shifts(0, -1)", Lived::town, x -> x.shifts(0, -1));
        c.bad("shifts(0, 6)", Lived::town, x -> x.shifts(0, 6));
        c.bad("shifts(least, 1)", Lived::town, x -> x.shifts(LEAST, 1));
        c.bad("shifts(0, greatest)", Lived::town, x -> x.shifts(0, GREATEST));
    }

    private static void p35_shifts_badAheadOfFindings(Case c) {
        c.bad("shifts(6, 4)", Lived::town, x -> x.shifts(6, 4));
        c.bad("shifts(6, 3)", Lived::town, x -> x.shifts(6, 3));
        c.bad("shifts(0, 1) of none", Lived::without, x -> x.shifts(0, 1));
        c.bad("shifts(0, 4) of none", Lived::without, x -> x.shifts(0, 4));
    }

    private static void p35_shifts_missingIsNothing(Case c) {
        c.found("shifts(0, 4)", Lived::town, x -> x.shifts(0, 4), NOTHING);
    }

    private static void p35_shifts_notByPairsIsSizeAheadOfUnlike(Case c) {
        c.found("shifts(0, 3)", Lived::town, x -> x.shifts(0, 3), SIZE);
        c.found("shifts of 39", () -> with(new int[39]), x -> x.shifts(0, 5), SIZE);
        c.found("shifts of 3 unlike ones", () -> with(99, 9, 9), x -> x.shifts(0, 5), SIZE);
    }

    private static void p35_shifts_noDegreeIsUnlike(Case c) {
        c.found("shifts of 31", () -> with(31, 1), x -> x.shifts(0, 5), UNLIKE);
        c.found("shifts of -1", () -> with(-1, 1), x -> x.shifts(0, 5), UNLIKE);
        c.found("shifts of 32", () -> with(32, 1), x -> x.shifts(0, 5), UNLIKE);
        c.found("shifts of least", () -> with(LEAST, 1), x -> x.shifts(0, 5), UNLIKE);
        c.found("shifts of 31 behind 30", () -> with(30, 1, 31, 1), x -> x.shifts(0, 5), UNLIKE);
    }

    private static void p35_shifts_no0And1IsUnlike(Case c) {
        c.found("shifts by 2", () -> with(30, 2), x -> x.shifts(0, 5), UNLIKE);
        c.found("shifts by -1", () -> with(30, -1), x -> x.shifts(0, 5), UNLIKE);
        c.found("shifts by greatest", () -> with(0, 1, 0, GREATEST), x -> x.shifts(0, 5), UNLIKE);
    }

    private static void p35_shifts_changesAndTellsNothing(Case c) {
        c.changesNothing("shifts(0, 1)", Lived::town, x -> x.shifts(0, 1));
        c.tellsNothing("shifts(0, 1)", Lived::town, x -> x.shifts(0, 1));
    }

    // ---- 36 kinds

    private static void kinds(Case c, String town, int want, int... days) {
        FeltCold x = Check.town(town);
        Check.lay(x, 0, days);
        c.due("kinds " + java.util.Arrays.toString(days), x.kinds(0, 0), want);
    }

    private static void p36_kinds_noPairsAreAllKinds(Case c) {
        kinds(c, "r1531o1500", ALL_KINDS);
        kinds(c, "r1531a1500", ALL_KINDS);
    }

    private static void p36_kinds_byNone(Case c) {
        kinds(c, "r1531o1500", 0, 15, 1, 15, 0);
    }

    private static void p36_kinds_degrees0And30AreTaken(Case c) {
        kinds(c, "r1531o1520", Check.bits(1), 0, 1);
        kinds(c, "r1531o1520", Check.bits(0, 3, 4, 5), 30, 1);
        kinds(c, "r1531o0000", Check.bits(0, 1, 2), 0, 1);
        kinds(c, "r1531o3000", Check.bits(0, 1, 2), 30, 1);
    }

    private static void p36_kinds_atWhatHeFeelsAndBeside(Case c) {
        kinds(c, "r1531o1520", Check.bits(1), 14, 1);
        kinds(c, "r1531o1520", Check.bits(0, 1, 2), 15, 1);
        kinds(c, "r1531o1520", Check.bits(0, 2, 4), 16, 1);
        kinds(c, "r1531o1520", Check.bits(0, 2, 3, 4, 5), 17, 1);
        kinds(c, "r1531o1520", Check.bits(0, 3, 4, 5), 18, 1);
    }

    private static void p36_kinds_hisOwnKindDoesNotMatter(Case c) {
        for (char letter : "ostmfa".toCharArray()) {
            kinds(c, "r1531" + letter + "1520", Check.bits(0, 2, 4), 16, 1);
        }
    }

    private static void p36_kinds_widthsAtTheirEnds(Case c) {
        kinds(c, "r1531o1500", Check.bits(2), 15, 1, 16, 0, 14, 0);
        kinds(c, "r1531o1590", Check.bits(2), 15, 1, 24, 1, 25, 0);
    }

    private static void p36_kinds_shiftSoupAndDriftMatterColdDoesNot(Case c) {
        FeltCold x = Check.town("r1531o1000");
        x.love(0, 5);
        x.cold(0);
        Check.lay(x, 0, 15, 1, 14, 0);
        c.due("kinds(0, 0)", x.kinds(0, 0), Check.bits(0, 2));
        x.soup();
        c.due("kinds(0, 0) by SOUP", x.kinds(0, 0), 0);
        for (int h = 0; h < 12; h++) {
            x.hour();
        }
        c.due("kinds(0, 0) at HOUR 12", x.kinds(0, 0), Check.bits(0, 2, 5));
    }

    private static void p36_kinds_most20Pairs(Case c) {
        int[] days = pairs(20, 15, 1);
        kinds(c, "r1531o1500", Check.bits(0, 1, 2), days);
        days[39] = 0;
        kinds(c, "r1531o1500", 0, days);
    }

    private static void p36_kinds_membersAndRowsBeyondAreBad(Case c) {
        c.bad("kinds(-1, 1)", Lived::town, x -> x.kinds(-1, 1));
        c.bad("kinds(6, 1)", Lived::town, x -> x.kinds(6, 1));
        c.bad("kinds(0, -1)", Lived::town, x -> x.kinds(0, -1));
        c.bad("kinds(0, 6)", Lived::town, x -> x.kinds(0, 6));
        c.bad("kinds(greatest, 1)", Lived::town, x -> x.kinds(GREATEST, 1));
        c.bad("kinds(0, least)", Lived::town, x -> x.kinds(0, LEAST));
    }

    private static void p36_kinds_badAheadOfFindings(Case c) {
        c.bad("kinds(6, 4)", Lived::town, x -> x.kinds(6, 4));
        c.bad("kinds(6, 3)", Lived::town, x -> x.kinds(6, 3));
        c.bad("kinds(0, 1) of none", Lived::without, x -> x.kinds(0, 1));
        c.bad("kinds(0, 4) of none", Lived::without, x -> x.kinds(0, 4));
    }

    private static void p36_kinds_missingIsNothing(Case c) {
        c.found("kinds(0, 4)", Lived::town, x -> x.kinds(0, 4), NOTHING);
    }

    private static void p36_kinds_notByPairsIsSizeAheadOfUnlike(Case c) {
        c.found("kinds(0, 3)", Lived::town, x -> x.kinds(0, 3), SIZE);
        c.found("kinds of 39", () -> with(new int[39]), x -> x.kinds(0, 5), SIZE);
        c.found("kinds of 3 unlike ones", () -> with(99, 9, 9), x -> x.kinds(0, 5), SIZE);
    }

    private static void p36_kinds_noDegreeOrNo0And1IsUnlike(Case c) {
        c.found("kinds of 31", () -> with(31, 1), x -> x.kinds(0, 5), UNLIKE);
        c.found("kinds of -1", () -> with(-1, 1), x -> x.kinds(0, 5), UNLIKE);
        c.found("kinds by 2", () -> with(0, 2), x -> x.kinds(0, 5), UNLIKE);
        c.found("kinds by -1", () -> with(0, -1), x -> x.kinds(0, 5), UNLIKE);
        c.found("kinds of 31 behind 30", () -> with(30, 1, 31, 0), x -> x.kinds(0, 5), UNLIKE);
    }

    private static void p36_kinds_changesAndTellsNothing(Case c) {
        c.changesNothing("kinds(0, 1)", Lived::town, x -> x.kinds(0, 1));
        c.tellsNothing("kinds(0, 1)", Lived::town, x -> x.kinds(0, 1));
    }

    // ---- 37 spreads

    private static void p37_spreads_noHoursIsNow(Case c) {
        FeltCold x = Check.town("r1531o1500o1500");
        c.told("spreads(0) of nobody", x, x.spreads(0), 0, 0);
        x.cold(1);
        c.told("spreads(0)", x, x.spreads(0), 2, 2);
    }

    private static void p37_spreads_most12Hours(Case c) {
        FeltCold x = Check.town("r1531o1500o1500");
        x.cold(0);
        // 2 0, 1 2, 0 1, 2 0: it goes round in three.
        int[] want = {1, 3, 2, 1, 3, 2, 1, 3, 2, 1, 3, 2, 1};
        for (int n = 0; n <= 12; n++) {
            c.told("spreads(" + n + ")", x, x.spreads(n), want[n], n == 0 ? 1 : 3);
        }
    }

    private static void p37_spreads_asTheHoursPass(Case c) {
        FeltCold x = Lived.town();
        FeltCold y = Lived.town();
        int ever = 0;
        for (int n = 0; n <= 12; n++) {
            int now = 0;
            for (int i = 0; i < 6; i++) {
                y.member(i, 4);
                now |= y.asked() > 0 ? 1 << i : 0;
            }
            ever |= now;
            c.told("spreads(" + n + ")", x, x.spreads(n), now, ever);
            y.hour();
        }
    }

    private static void p37_spreads_overBehindTwoHoursIfAlone(Case c) {
        FeltCold x = Check.town("r1531r1531o1500o1501");
        x.cold(0);
        c.told("spreads(1)", x, x.spreads(1), 1, 1);
        c.told("spreads(2)", x, x.spreads(2), 0, 1);
        c.told("spreads(12)", x, x.spreads(12), 0, 1);
    }

    private static void p37_spreads_coldsOverBeforeNowDoNotCount(Case c) {
        FeltCold x = Check.town("r1531r1531o1500o1501");
        x.cold(0);
        x.hour();
        x.hour();
        c.told("spreads(12)", x, x.spreads(12), 0, 0);
    }

    private static void p37_spreads_hoursBeyondAreBad(Case c) {
        c.bad("spreads(-1)", Lived::town, x -> x.spreads(-1));
        c.bad("spreads(13)", Lived::town, x -> x.spreads(13));
        c.bad("spreads(least)", Lived::town, x -> x.spreads(LEAST));
        c.bad("spreads(greatest)", Lived::town, x -> x.spreads(GREATEST));
    }

    private static void p37_spreads_noMembersIsState(Case c) {
        c.state("spreads(0)", Lived::without, x -> x.spreads(0));
        c.state("spreads(12) of a new object", FeltCold::new, x -> x.spreads(12));
    }

    private static void p37_spreads_badAheadOfState(Case c) {
        c.bad("spreads(-1)", Lived::without, x -> x.spreads(-1));
        c.bad("spreads(13)", Lived::without, x -> x.spreads(13));
    }

    private static void p37_spreads_changesNothing(Case c) {
        c.changesNothing("spreads(12)", Lived::town, x -> x.spreads(12));
        c.changesNothing("spreads(12) with 40 DEEDS", Lived::full, x -> x.spreads(12));
    }

    // ---- 38 soups

    private static void p38_soups_noHoursIsNone(Case c) {
        FeltCold x = Check.town("r1531o1500o2000");
        c.told("soups(0, 0, 0)", x, x.soups(0, 0, 0), 0, 0);
        c.told("soups(0, 0, 1)", x, x.soups(0, 0, 1), 0, 0);
        c.told("soups(1, 0, 1)", x, x.soups(1, 0, 1), 0, 0);
    }

    private static void p38_soups_most8Hours(Case c) {
        FeltCold x = Check.town("r1531o1500");
        int[] served = {0, 1, 1, 1, 2, 2, 2, 3, 3};
        int[] ahead = {0, 1, 1, 1, 3, 5, 9, 19, 37};
        for (int n = 0; n <= 8; n++) {
            c.told("soups(0, " + n + ", 0)", x, x.soups(0, n, 0), served[n], ahead[n]);
        }
    }

    private static void p38_soups_noneNeeded(Case c) {
        FeltCold x = Check.town("r1531o1500");
        c.told("soups(0, 8, 1)", x, x.soups(0, 8, 1), 0, 0);
    }

    private static void p38_soups_byNone(Case c) {
        c.none("soups(0, 1, 1) of one who never does", () -> Check.town("r1531o2000"), x -> x.soups(0, 1, 1));
        c.none("soups(0, 8, 0) of one who always does", () -> Check.town("r1531o1000"), x -> x.soups(0, 8, 0));
        c.none("soups(0, 1, 1) with SOUP yet", () -> {
            FeltCold x = Check.town("r1531o1500");
            x.soup();
            x.member(0, 6);
            return x;
        }, x -> x.soups(0, 1, 1));
    }

    private static void p38_soups_soupThatThereIsYetGoesOn(Case c) {
        FeltCold x = Check.town("r1531o1500");
        x.soup();
        int[] served = {0, 0, 0, 0, 1, 1, 1, 2, 2};
        int[] ahead = {0, 0, 0, 0, 2, 4, 8, 18, 36};
        for (int n = 0; n <= 8; n++) {
            c.told("soups(0, " + n + ", 0)", x, x.soups(0, n, 0), served[n], ahead[n]);
        }
        x.hour();
        x.hour();
        c.told("soups(0, 2, 0) in its last HOUR", x, x.soups(0, 2, 0), 1, 1);
    }

    private static void p38_soups_oldDriftsMeanwhile(Case c) {
        FeltCold x = Check.town("r1531a1300");
        // He FEELS 15 up to HOUR 5, 14 from HOUR 6 on: SOUP makes it 16, 15.
        c.told("soups(0, 6, 0)", x, x.soups(0, 6, 0), 2, 9);
        c.due("soups(0, 7, 0)", x.soups(0, 7, 0), FeltCold.NONE);
        c.told("soups(0, 8, 1)", x, x.soups(0, 8, 1), 0, 0);
        for (int h = 0; h < 5; h++) {
            x.hour();
        }
        c.told("soups(0, 1, 0) at HOUR 5", x, x.soups(0, 1, 0), 1, 1);
        c.due("soups(0, 2, 0) at HOUR 5", x.soups(0, 2, 0), FeltCold.NONE);
    }

    private static void p38_soups_coldAside(Case c) {
        FeltCold x = Check.town("r1531o1500");
        x.cold(0);
        c.told("soups(0, 8, 1)", x, x.soups(0, 8, 1), 0, 0);
        c.told("soups(0, 1, 0)", x, x.soups(0, 1, 0), 1, 1);
    }

    private static void p38_soups_atTheDegreeOfHisRoom(Case c) {
        FeltCold x = Check.town("r1531r0031o1501o1500");
        c.told("soups(0, 1, 0)", x, x.soups(0, 1, 0), 0, 0);
        c.told("soups(1, 1, 0)", x, x.soups(1, 1, 0), 1, 1);
    }

    private static void p38_soups_shiftAtItsEnds(Case c) {
        FeltCold x = Check.town("r1531o1000o2000");
        x.love(0, 5);
        x.love(1, -5);
        for (int i = 0; i < 2; i++) {
            c.told("soups(" + i + ", 4, 0)", x, x.soups(i, 4, 0), 2, 3);
            c.told("soups(" + i + ", 4, 1)", x, x.soups(i, 4, 1), 0, 0);
        }
    }

    private static void p38_soups_twinByBothEnds(Case c) {
        FeltCold x = Check.town("r1531t1410t1400");
        c.told("soups(0, 8, 1)", x, x.soups(0, 8, 1), 0, 0);
        c.told("soups(1, 3, 1)", x, x.soups(1, 3, 1), 1, 1);
        c.told("soups(1, 3, 0)", x, x.soups(1, 3, 0), 0, 0);
    }

    private static void p38_soups_numbersBeyondAreBad(Case c) {
        c.bad("soups(-1, 0, 0)", Lived::town, x -> x.soups(-1, 0, 0));
        c.bad("soups(6, 0, 0)", Lived::town, x -> x.soups(6, 0, 0));
        c.bad("soups(0, -1, 0)", Lived::town, x -> x.soups(0, -1, 0));
        c.bad("soups(0, 9, 0)", Lived::town, x -> x.soups(0, 9, 0));
        c.bad("soups(0, 0, -1)", Lived::town, x -> x.soups(0, 0, -1));
        c.bad("soups(0, 0, 2)", Lived::town, x -> x.soups(0, 0, 2));
        c.bad("soups(least, ..)", Lived::town, x -> x.soups(LEAST, LEAST, LEAST));
        c.bad("soups(0, greatest, 1)", Lived::town, x -> x.soups(0, GREATEST, 1));
    }

    private static void p38_soups_noMembersIsStateAheadOfBad(Case c) {
        c.state("soups(0, 0, 0)", Lived::without, x -> x.soups(0, 0, 0));
        c.state("soups(-1, 0, 0)", Lived::without, x -> x.soups(-1, 0, 0));
        c.state("soups(0, 9, 0)", Lived::without, x -> x.soups(0, 9, 0));
        c.state("soups(0, 0, 2) of a new object", FeltCold::new, x -> x.soups(0, 0, 2));
    }

    private static void p38_soups_changesNothing(Case c) {
        c.changesNothing("soups(1, 8, 0)", () -> Check.town("r1531o1500o1500"), x -> x.soups(1, 8, 0));
    }
}
