/** Promises 24 to 32, edge by edge: SPANS, KNOWN ROOMS, whom to send where, parts that they can tell. */
public final class EdgesWarmTest {
    private static final int LEAST = Lived.LEAST, GREATEST = Lived.GREATEST;
    private static final int ALL = GREATEST;
    /** Six TWINS of whom each takes 4 other DEGREES away at DEGREE 0: 7 are left by all six alone. */
    private static final String SIX_TWINS = "t0130t0530t0930t1330t1730t2130";

    public static void main(String[] args) throws IllegalAccessException {
        Cases.run(EdgesWarmTest.class);
    }

    // ---- 24 span

    private static void p24_span_ofNobodyAreAllDegrees(Case c) {
        FeltCold x = Check.town("r0031r3031o1500");
        c.told("span(1)", x, x.span(1), ALL, 31);
        x.walk(0, 1);
        c.told("span(0)", x, x.span(0), ALL, 31);
    }

    private static void p24_span_degree0Alone(Case c) {
        FeltCold x = Check.town("r0001o0100");
        c.told("span(0) of a ONE who does not", x, x.span(0), 1, 1);
        FeltCold y = Check.town("r0001s0000");
        c.told("span(0) of a SNEEZER who does", y, y.span(0), 1, 1);
        FeltCold z = Check.town("r0001t0000");
        c.told("span(0) of a TWIN who does", z, z.span(0), 1, 1);
    }

    private static void p24_span_degree30Alone(Case c) {
        FeltCold x = Check.town("r3001o3000");
        c.told("span(0) of a ONE who does", x, x.span(0), 1 << 30, 1);
        FeltCold y = Check.town("r3001s2900");
        c.told("span(0) of a SNEEZER who does not", y, y.span(0), 1 << 30, 1);
        FeltCold z = Check.town("r3001t3090");
        c.told("span(0) of a TWIN who does", z, z.span(0), 1 << 30, 1);
    }

    private static void p24_span_boxedInToOne(Case c) {
        FeltCold x = Check.town("r1501o1500s1500");
        c.told("span(0)", x, x.span(0), 1 << 15, 1);
        FeltCold y = Check.town("r1501o1500o1600");
        c.told("span(0)", y, y.span(0), 1 << 15, 1);
    }

    private static void p24_span_alwaysHasTheDegreeItself(Case c) {
        FeltCold x = Check.town("r1501o1400s1300t1020m1900f1000a2000");
        for (int degree = 0; degree <= 30; degree++) {
            x.fire(0, degree);
            c.due("span(0) at " + degree, x.span(0) >> degree & 1, 1);
            x.undo(0);
        }
    }

    private static void p24_span_ofOneWhoFeelsBelow0OrAbove30(Case c) {
        FeltCold x = Check.town("r1501o0000");
        x.love(0, -5);
        c.told("span(0) of one who always does", x, x.span(0), ALL, 31);
        FeltCold y = Check.town("r1501o3000");
        y.love(0, 5);
        c.told("span(0) of one who never does", y, y.span(0), ALL, 31);
    }

    private static void p24_span_ofThoseWithAColdAreAllDegrees(Case c) {
        FeltCold x = Check.town("r1501o1500s1500f1500");
        x.cold(0);
        x.cold(1);
        x.cold(2);
        c.told("span(0)", x, x.span(0), ALL, 31);
    }

    private static void p24_span_twinWhoDoesNotLeavesBothSides(Case c) {
        FeltCold x = Check.town("r0031t1090");
        c.told("span(0)", x, x.span(0), ALL & ~Check.range(10, 19), 21);
    }

    private static void p24_span_firstAndLastRoom(Case c) {
        FeltCold x = Check.town("r1031r1031r1031r1031o0500s1503");
        c.told("span(0)", x, x.span(0), Check.range(5, 30), 26);
        c.told("span(3)", x, x.span(3), Check.range(0, 15), 16);
    }

    private static void p24_span_roomsBeyondAreBad(Case c) {
        c.bad("span(-1)", Lived::town, x -> x.span(-1));
        c.bad("span(3)", Lived::town, x -> x.span(3));
        c.bad("span(least)", Lived::town, x -> x.span(LEAST));
        c.bad("span(greatest)", Lived::town, x -> x.span(GREATEST));
        c.bad("span(0) of none", Lived::without, x -> x.span(0));
    }

    private static void p24_span_changesNothing(Case c) {
        c.changesNothing("span(1)", Lived::town, x -> x.span(1));
    }

    // ---- 25 spanBy

    private static void p25_spanBy_noneIs31(Case c) {
        FeltCold x = Check.town("r1531o1500s1500");
        c.due("spanBy(0, 0)", x.spanBy(0, 0), 31);
    }

    private static void p25_spanBy_allMembersIsTheGreatestSet(Case c) {
        FeltCold x = Check.town("r1531r0031o1501s1501t1501m1501f1501a1501");
        c.due("spanBy(0, 63)", x.spanBy(0, 63), 1);
        c.due("spanBy(0, 64)", x.spanBy(0, 64), FeltCold.BAD);
        FeltCold one = Check.town("r1531o1000");
        c.due("spanBy(0, 1)", one.spanBy(0, 1), 21);
        c.due("spanBy(0, 2)", one.spanBy(0, 2), FeltCold.BAD);
    }

    private static void p25_spanBy_setsThatAreNoneAreBad(Case c) {
        c.bad("spanBy(0, -1)", Lived::town, x -> x.spanBy(0, -1));
        c.bad("spanBy(0, 64)", Lived::town, x -> x.spanBy(0, 64));
        c.bad("spanBy(0, 65)", Lived::town, x -> x.spanBy(0, 65));
        c.bad("spanBy(0, least)", Lived::town, x -> x.spanBy(0, LEAST));
        c.bad("spanBy(0, greatest)", Lived::town, x -> x.spanBy(0, GREATEST));
    }

    private static void p25_spanBy_roomsBeyondAreBad(Case c) {
        c.bad("spanBy(-1, 0)", Lived::town, x -> x.spanBy(-1, 0));
        c.bad("spanBy(3, 0)", Lived::town, x -> x.spanBy(3, 0));
        c.bad("spanBy(least, 0)", Lived::town, x -> x.spanBy(LEAST, 0));
        c.bad("spanBy(greatest, 0)", Lived::town, x -> x.spanBy(GREATEST, 0));
        c.bad("spanBy(0, 0) of none", Lived::without, x -> x.spanBy(0, 0));
    }

    private static void p25_spanBy_thoseWhoAreThereDoNotCountIfNotInTheSet(Case c) {
        FeltCold x = Check.town("r1531r0031o1500s1501");
        c.due("spanBy(0, 0)", x.spanBy(0, 0), 31);
        c.due("spanBy(0, 2), who is elsewhere", x.spanBy(0, 2), 16);
        c.due("spanBy(0, 3)", x.spanBy(0, 3), 1);
    }

    private static void p25_spanBy_whoHasAColdTellsNothing(Case c) {
        FeltCold x = Check.town("r1531o1500s1500");
        x.cold(0);
        c.due("spanBy(0, 1)", x.spanBy(0, 1), 31);
        c.due("spanBy(0, 3)", x.spanBy(0, 3), 16);
    }

    private static void p25_spanBy_changesAndTellsNothing(Case c) {
        c.changesNothing("spanBy(1, 5)", Lived::town, x -> x.spanBy(1, 5));
        c.tellsNothing("spanBy(1, 5)", Lived::town, x -> x.spanBy(1, 5));
    }

    // ---- 26 known

    private static void p26_known_noRooms(Case c) {
        c.due("known()", new FeltCold().known(), 0);
        c.due("known() without a TOWN", Lived.without().known(), 0);
    }

    private static void p26_known_asManyDegreesAsNeedIsKnown(Case c) {
        c.due("21 of 21", Check.town("r1521o1000").known(), 1);
        c.due("21 of 20", Check.town("r1520o1000").known(), 0);
        c.due("21 of 22", Check.town("r1522o1000").known(), 1);
    }

    private static void p26_known_need31IsAlwaysKnown(Case c) {
        FeltCold x = Check.town("r1531r0030o1500");
        x.cold(0);
        c.due("known()", x.known(), 1);
    }

    private static void p26_known_need1(Case c) {
        c.due("1 of 1", Check.town("r1501o1500s1500").known(), 1);
        c.due("2 of 1", Check.town("r1501o1500s1600").known(), 0);
    }

    private static void p26_known_allFourRoomsAndNone(Case c) {
        c.due("all", Check.town("r1531r1531r1531r1531o1500").known(), 15);
        c.due("none", Check.town("r1530r1530r1530r1530o0000").known(), 0);
        c.due("the last alone", Check.town("r1530r1530r1530r1516o1503").known(), 8);
    }

    private static void p26_known_changesAndTellsNothing(Case c) {
        c.changesNothing("known()", Lived::town, x -> x.known());
        c.tellsNothing("known()", Lived::town, x -> x.known());
    }

    // ---- 27 box

    private static void p27_box_noneOfThem(Case c) {
        FeltCold x = Check.town("r1531o1500s1500");
        c.told("box(0, 0)", x, x.box(0, 0), 0, 31);
    }

    private static void p27_box_allOfThem(Case c) {
        FeltCold x = Check.town("r0031" + SIX_TWINS);
        c.told("box(0, 6)", x, x.box(0, 6), 63, 7);
        FeltCold y = Check.town("r1531o1500s1500");
        c.told("box(0, 2)", y, y.box(0, 2), 3, 1);
    }

    private static void p27_box_oneMoreThanThereAreIsNone(Case c) {
        c.none("box(0, 2)", () -> Check.town("r1531o1500"), x -> x.box(0, 2));
        c.none("box(0, 6)", () -> Check.town("r1531o1500"), x -> x.box(0, 6));
        c.none("box(0, 6) of five", () -> Check.town("r1531o1500o1500o1500o1500o1500"), x -> x.box(0, 6));
    }

    private static void p27_box_numbersBeyondAreBad(Case c) {
        c.bad("box(0, -1)", Lived::town, x -> x.box(0, -1));
        c.bad("box(0, 7)", Lived::town, x -> x.box(0, 7));
        c.bad("box(0, least)", Lived::town, x -> x.box(0, LEAST));
        c.bad("box(0, greatest)", Lived::town, x -> x.box(0, GREATEST));
    }

    private static void p27_box_roomsBeyondAreBadAheadOfNone(Case c) {
        c.bad("box(-1, 0)", Lived::town, x -> x.box(-1, 0));
        c.bad("box(3, 0)", Lived::town, x -> x.box(3, 0));
        c.bad("box(1, 6) of one", () -> Check.town("r1531o1500"), x -> x.box(1, 6));
        c.bad("box(least, 0)", Lived::town, x -> x.box(LEAST, 0));
        c.bad("box(greatest, 0)", Lived::town, x -> x.box(GREATEST, 0));
        c.bad("box(0, 0) of none", Lived::without, x -> x.box(0, 0));
    }

    private static void p27_box_leastNumberOfEqualOnes(Case c) {
        FeltCold x = Check.town("r1531o1500o1500o1500o1500o1500o1500");
        int[] want = {0, 1, 3, 7, 15, 31, 63};
        for (int n = 0; n <= 6; n++) {
            c.told("box(0, " + n + ")", x, x.box(0, n), want[n], n == 0 ? 31 : 16);
        }
    }

    private static void p27_box_greaterNumberIfItHasFewer(Case c) {
        FeltCold x = Check.town("r1531o1000o1100o1200o1300o1400o1500");
        c.told("box(0, 1)", x, x.box(0, 1), 32, 16);
        c.told("box(0, 2)", x, x.box(0, 2), 33, 16);
    }

    private static void p27_box_thoseOfAllRooms(Case c) {
        FeltCold x = Check.town("r1531r0031o0001o1501");
        c.told("box(0, 1)", x, x.box(0, 1), 2, 16);
    }

    private static void p27_box_changesNothing(Case c) {
        c.changesNothing("box(1, 3)", Lived::town, x -> x.box(1, 3));
    }

    // ---- 28 send

    private static void row(Case c, FeltCold x, int r, int... want) {
        for (int i = 0; i < want.length; i++) {
            c.told("at(" + r + ", " + i + ")", x, x.at(r, i), 1, want[i]);
        }
        c.finding("at(" + r + ", size)", x, x.at(r, want.length), 2);
    }

    private static void p28_send_noStepsIfAllAreKnown(Case c) {
        FeltCold x = Check.town("r1531r1531o1501s1500");
        c.due("send(0)", x.send(0), 0);
        row(c, x, 0, 1, 0);
    }

    private static void p28_send_oneRoomAlone(Case c) {
        FeltCold x = Check.town("r1501o1500s1500");
        c.due("send(0)", x.send(0), 0);
        row(c, x, 0, 0, 0);
        c.none("send(0) of what they can't tell", () -> Check.town("r1501o1500"), y -> y.send(0));
    }

    private static void p28_send_most18Steps(Case c) {
        FeltCold x = Check.town("r1031r1031r1031r0007" + SIX_TWINS);
        c.due("send(5)", x.send(5), 18);
        row(c, x, 5, 3, 3, 3, 3, 3, 3);
        c.none("send(5) with one less NEED", () -> Check.town("r1031r1031r1031r0006" + SIX_TWINS), y -> y.send(5));
    }

    private static void p28_send_most18StepsToTheFirst(Case c) {
        FeltCold x = Check.town("r0007r1031r1031r1031" + SIX_TWINS.replace("30t", "33t").replace("2130", "2133"));
        c.due("send(5)", x.send(5), 18);
        row(c, x, 5, 0, 0, 0, 0, 0, 0);
    }

    private static void p28_send_oneMember(Case c) {
        FeltCold x = Check.town("r1531r1516o1500");
        c.due("send(0)", x.send(0), 1);
        row(c, x, 0, 1);
    }

    private static void p28_send_firstByMembersOfEqualOnes(Case c) {
        // Either may go to the middle ROOM: MEMBER 0 staying in ROOM 0 comes first.
        FeltCold x = Check.town("r1531r1516r1531o1500o1502");
        c.due("send(0)", x.send(0), 1);
        row(c, x, 0, 0, 1);
        // MEMBER 0 comes from behind: going on to ROOM 1 is the first then.
        FeltCold y = Check.town("r1531r1516r1531o1502o1500");
        c.due("send(0)", y.send(0), 1);
        row(c, y, 0, 1, 0);
    }

    private static void p28_send_fewestStepsAheadOfFirstByMembers(Case c) {
        FeltCold x = Check.town("r1516r1531r1531o1502o1501");
        c.due("send(0)", x.send(0), 1);
        row(c, x, 0, 2, 0);
    }

    private static void p28_send_rowIsMadeAnew(Case c) {
        FeltCold x = Check.town("r1531r1531o1501s1500");
        x.row(0, 40);
        c.due("send(0) over a greater one", x.send(0), 0);
        row(c, x, 0, 1, 0);
        x.row(5, 0);
        c.due("send(5) over an empty one", x.send(5), 0);
        row(c, x, 5, 1, 0);
        c.due("count(8)", x.count(8), 2);
    }

    private static void p28_send_noneLeavesTheRow(Case c) {
        c.none("send(0) with a ROW", Lived::town, x -> x.send(0));
        c.none("send(4) without", Lived::town, x -> x.send(4));
    }

    private static void p28_send_rowsBeyondAreBad(Case c) {
        c.bad("send(-1)", Lived::town, x -> x.send(-1));
        c.bad("send(6)", Lived::town, x -> x.send(6));
        c.bad("send(least)", Lived::town, x -> x.send(LEAST));
        c.bad("send(greatest)", Lived::town, x -> x.send(GREATEST));
    }

    private static void p28_send_noMembersIsState(Case c) {
        c.state("send(0)", Lived::without, x -> x.send(0));
        c.state("send(5) of a new object", FeltCold::new, x -> x.send(5));
    }

    private static void p28_send_badAheadOfState(Case c) {
        c.bad("send(-1)", Lived::without, x -> x.send(-1));
        c.bad("send(6)", Lived::without, x -> x.send(6));
    }

    private static void p28_send_isNoDeed(Case c) {
        FeltCold x = Check.town("r1531r1516o1500");
        x.send(0);
        c.due("count(3)", x.count(3), 0);
        c.due("count(4)", x.count(4), 0);
        c.due("room(0, 2)", x.room(0, 2), 1);
        FeltCold y = Check.town("r1531r1516o1500");
        for (int k = 0; k < 40; k++) {
            y.fire(0, k % 2);
        }
        c.due("send(0) with 40 DEEDS", y.send(0), 1);
        c.tellsNothing("send(0)", () -> Check.town("r1531r1516o1500"), z -> z.send(0));
    }

    // ---- 29 most

    private static void p29_most_noSteps(Case c) {
        FeltCold x = Check.town("r1531r1516o1500");
        c.told("most(0)", x, x.most(0), 1, 0);
        c.told("most(1)", x, x.most(1), 2, 1);
    }

    private static void p29_most_18StepsAnd17(Case c) {
        FeltCold x = Check.town("r1031r1031r1031r0007" + SIX_TWINS);
        c.told("most(17)", x, x.most(17), 3, 0);
        c.told("most(18)", x, x.most(18), 4, 18);
    }

    private static void p29_most_noneIsKnown(Case c) {
        FeltCold x = Check.town("r1501r1501o0000");
        c.told("most(0)", x, x.most(0), 0, 0);
        c.told("most(18)", x, x.most(18), 0, 0);
    }

    private static void p29_most_fewestOfTheseSteps(Case c) {
        FeltCold x = Check.town("r1531r1531r1531r1516o1500o1501");
        c.told("most(1)", x, x.most(1), 3, 0);
        c.told("most(2)", x, x.most(2), 4, 2);
        c.told("most(18)", x, x.most(18), 4, 2);
    }

    private static void p29_most_stepsOfAllTogether(Case c) {
        FeltCold x = Check.town("r1531r1516r1516o1500o1500");
        c.told("most(2)", x, x.most(2), 2, 1);
        c.told("most(3)", x, x.most(3), 3, 3);
    }

    private static void p29_most_stepsBeyondAreBad(Case c) {
        c.bad("most(-1)", Lived::town, x -> x.most(-1));
        c.bad("most(19)", Lived::town, x -> x.most(19));
        c.bad("most(least)", Lived::town, x -> x.most(LEAST));
        c.bad("most(greatest)", Lived::town, x -> x.most(GREATEST));
    }

    private static void p29_most_noMembersIsState(Case c) {
        c.state("most(0)", Lived::without, x -> x.most(0));
        c.state("most(18) of a new object", FeltCold::new, x -> x.most(18));
    }

    private static void p29_most_badAheadOfState(Case c) {
        c.bad("most(-1)", Lived::without, x -> x.most(-1));
        c.bad("most(19)", Lived::without, x -> x.most(19));
    }

    private static void p29_most_changesNothing(Case c) {
        c.changesNothing("most(18)", Lived::town, x -> x.most(18));
        c.changesNothing("most(18) with 40 DEEDS", Lived::full, x -> x.most(18));
    }

    // ---- 30 parts

    private static void p30_parts_byNobodyOne(Case c) {
        FeltCold x = Check.town("r1531o1500");
        c.told("parts(0)", x, x.parts(0), 1, 31);
    }

    private static void p30_parts_byAllSix(Case c) {
        FeltCold x = Check.town("r0031" + SIX_TWINS);
        // Each TWIN's four DEGREES, and the seven that no one does it at.
        c.told("parts(63)", x, x.parts(63), 7, 7);
        c.told("parts(1)", x, x.parts(1), 2, 27);
        c.told("parts(32)", x, x.parts(32), 2, 27);
    }

    private static void p30_parts_ofOneDegree(Case c) {
        FeltCold x = Check.town("r1531o3000s0000");
        c.told("parts(1)", x, x.parts(1), 2, 30);
        c.told("parts(2)", x, x.parts(2), 2, 30);
        c.told("parts(3)", x, x.parts(3), 3, 29);
    }

    private static void p30_parts_byThoseWhoAlwaysOrNeverDoIt(Case c) {
        FeltCold x = Check.town("r1531o0000m3000s3000");
        c.told("parts(7)", x, x.parts(7), 1, 31);
    }

    private static void p30_parts_apartOnesMayBeAlike(Case c) {
        FeltCold x = Check.town("r1531t1090");
        c.told("parts(1)", x, x.parts(1), 2, 21);
    }

    private static void p30_parts_greatestSet(Case c) {
        FeltCold x = Check.town("r1531o1000o2000o2500");
        c.told("parts(7)", x, x.parts(7), 4, 10);
        c.due("parts(8)", x.parts(8), FeltCold.BAD);
    }

    private static void p30_parts_setsThatAreNoneAreBad(Case c) {
        c.bad("parts(-1)", Lived::town, x -> x.parts(-1));
        c.bad("parts(64)", Lived::town, x -> x.parts(64));
        c.bad("parts(least)", Lived::town, x -> x.parts(LEAST));
        c.bad("parts(greatest)", Lived::town, x -> x.parts(GREATEST));
    }

    private static void p30_parts_noMembersIsStateAheadOfBad(Case c) {
        c.state("parts(0)", Lived::without, x -> x.parts(0));
        c.state("parts(1)", Lived::without, x -> x.parts(1));
        c.state("parts(-1)", Lived::without, x -> x.parts(-1));
        c.state("parts(greatest) of a new object", FeltCold::new, x -> x.parts(GREATEST));
    }

    private static void p30_parts_whoHasAColdTellsNothing(Case c) {
        FeltCold x = Check.town("r1531o1000o2000");
        x.cold(0);
        c.told("parts(3)", x, x.parts(3), 2, 20);
        x.cold(1);
        c.told("parts(3)", x, x.parts(3), 1, 31);
    }

    private static void p30_parts_changesNothing(Case c) {
        c.changesNothing("parts(63)", Lived::town, x -> x.parts(63));
    }

    // ---- 31 fewest

    private static void p31_fewest_nobody(Case c) {
        FeltCold x = Check.town("r1531o0000m3000s3000");
        c.told("fewest()", x, x.fewest(), 0, 0);
    }

    private static void p31_fewest_allSix(Case c) {
        FeltCold x = Check.town("r1531" + SIX_TWINS);
        c.told("fewest()", x, x.fewest(), 6, 63);
    }

    private static void p31_fewest_leastNumberOfEqualOnes(Case c) {
        FeltCold x = Check.town("r1531o1500s1400f1400m1300o1500o1500");
        c.told("fewest()", x, x.fewest(), 1, 1);
        x.cold(0);
        c.told("fewest() without the first", x, x.fewest(), 1, 2);
        FeltCold y = Check.town("r1531o1500o2000o2000o1500");
        c.told("fewest() of pairs", y, y.fewest(), 2, 3);
    }

    private static void p31_fewest_fewerAheadOfTheLeastNumber(Case c) {
        // The ONES tell four parts, too; the one of 10 and the TWIN of 5 .. 14 are fewer.
        FeltCold x = Check.town("r1531o0500o1000o1500t0590");
        c.told("fewest()", x, x.fewest(), 2, 10);
        FeltCold y = Check.town("r1531o0000o3000t3090");
        c.told("fewest()", y, y.fewest(), 1, 2);
    }

    private static void p31_fewest_allWithAColdIsNobody(Case c) {
        FeltCold x = Check.town("r1531o1500s1400");
        x.cold(0);
        x.cold(1);
        c.told("fewest()", x, x.fewest(), 0, 0);
    }

    private static void p31_fewest_noMembersIsState(Case c) {
        c.state("fewest()", Lived::without, x -> x.fewest());
        c.state("fewest() of a new object", FeltCold::new, x -> x.fewest());
    }

    private static void p31_fewest_changesNothing(Case c) {
        c.changesNothing("fewest()", Lived::town, x -> x.fewest());
    }

    // ---- 32 alike

    private static void p32_alike_degrees0And30(Case c) {
        FeltCold x = Check.town("r1531o0100o3000");
        c.due("alike(0)", x.alike(0), 1);
        c.due("alike(1)", x.alike(1), Check.range(1, 29));
        c.due("alike(29)", x.alike(29), Check.range(1, 29));
        c.due("alike(30)", x.alike(30), 1 << 30);
    }

    private static void p32_alike_allDegrees(Case c) {
        FeltCold x = Check.town("r1531o0000");
        c.due("alike(0)", x.alike(0), ALL);
        c.due("alike(30)", x.alike(30), ALL);
    }

    private static void p32_alike_allTellNotJustThoseOfARoom(Case c) {
        FeltCold x = Check.town("r1531r0031o1500o2001");
        c.due("alike(17)", x.alike(17), Check.range(15, 19));
    }

    private static void p32_alike_whoHasAColdTellsNothing(Case c) {
        FeltCold x = Check.town("r1531o1500o2000");
        x.cold(1);
        c.due("alike(17)", x.alike(17), Check.range(15, 30));
        x.cold(0);
        c.due("alike(17)", x.alike(17), ALL);
    }

    private static void p32_alike_degreesBeyondAreBad(Case c) {
        c.bad("alike(-1)", Lived::town, x -> x.alike(-1));
        c.bad("alike(31)", Lived::town, x -> x.alike(31));
        c.bad("alike(32)", Lived::town, x -> x.alike(32));
        c.bad("alike(least)", Lived::town, x -> x.alike(LEAST));
        c.bad("alike(greatest)", Lived::town, x -> x.alike(GREATEST));
    }

    private static void p32_alike_noMembersIsState(Case c) {
        c.state("alike(0)", Lived::without, x -> x.alike(0));
        c.state("alike(30) of a new object", FeltCold::new, x -> x.alike(30));
    }

    private static void p32_alike_badAheadOfState(Case c) {
        c.bad("alike(-1)", Lived::without, x -> x.alike(-1));
        c.bad("alike(31)", Lived::without, x -> x.alike(31));
    }

    private static void p32_alike_changesAndTellsNothing(Case c) {
        c.changesNothing("alike(12)", Lived::town, x -> x.alike(12));
        c.tellsNothing("alike(12)", Lived::town, x -> x.alike(12));
    }
}
