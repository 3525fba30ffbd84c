/** Promises 15 to 23, edge by edge: DEEDS, undone, kept, gone on from. */
public final class EdgesDeedsTest {
    private static final int LEAST = Lived.LEAST, GREATEST = Lived.GREATEST;
    private static final int NOTHING = 1;
    private static final String FOUR_ROOMS = "r1501r1501r1501r1501";

    public static void main(String[] args) throws IllegalAccessException {
        Cases.run(EdgesDeedsTest.class);
    }

    private static void member(Case c, FeltCold x, int i, int what, int want) {
        c.told("member(" + i + ", " + what + ")", x, x.member(i, what), 1, want);
    }

    private static void colds(Case c, FeltCold x, int... want) {
        for (int i = 0; i < want.length; i++) {
            member(c, x, i, 4, want[i]);
        }
    }

    // ---- 15 walk

    private static void p15_walk_oneStepAndThree(Case c) {
        FeltCold x = Check.town(FOUR_ROOMS + "o1500o1503");
        c.due("walk(0, 1)", x.walk(0, 1), 1);
        c.due("walk(1, 0)", x.walk(1, 0), 4);
        c.due("walk(0, 3)", x.walk(0, 3), 6);
        c.due("walk(0, 0)", x.walk(0, 0), 9);
        c.due("count(4)", x.count(4), 9);
        c.due("count(3)", x.count(3), 4);
    }

    private static void p15_walk_backDoesNotTakeStepsAway(Case c) {
        FeltCold x = Check.town(FOUR_ROOMS + "o1502");
        c.due("walk(0, 0)", x.walk(0, 0), 2);
        c.due("walk(0, 2)", x.walk(0, 2), 4);
    }

    private static void p15_walk_most40WalksOf3Steps(Case c) {
        FeltCold x = Check.town(FOUR_ROOMS + "o1500");
        for (int k = 1; k <= 40; k++) {
            c.due("walk " + k, x.walk(0, k % 2 == 1 ? 3 : 0), 3 * k);
        }
        c.due("walk 41", x.walk(0, 3), FeltCold.FULL);
        c.due("count(4)", x.count(4), 120);
    }

    private static void p15_walk_heWhoIsThereIsState(Case c) {
        c.state("walk(3, 1)", Lived::town, x -> x.walk(3, 1));
        c.state("walk(1, 0) behind a walk", Lived::town, x -> x.walk(1, 0));
        c.state("walk(0, 0) in one ROOM", () -> Check.town("r1501o1500"), x -> x.walk(0, 0));
    }

    private static void p15_walk_membersBeyondAreBad(Case c) {
        c.bad("walk(-1, 0)", Lived::town, x -> x.walk(-1, 0));
        c.bad("walk(6, 0)", Lived::town, x -> x.walk(6, 0));
        c.bad("walk(least, 0)", Lived::town, x -> x.walk(LEAST, 0));
        c.bad("walk(greatest, 0)", Lived::town, x -> x.walk(GREATEST, 0));
        c.bad("walk(0, 0) of none", Lived::without, x -> x.walk(0, 0));
    }

    private static void p15_walk_roomsBeyondAreBad(Case c) {
        c.bad("walk(0, -1)", Lived::town, x -> x.walk(0, -1));
        c.bad("walk(0, 3)", Lived::town, x -> x.walk(0, 3));
        c.bad("walk(0, least)", Lived::town, x -> x.walk(0, LEAST));
        c.bad("walk(0, greatest)", Lived::town, x -> x.walk(0, GREATEST));
    }

    private static void p15_walk_fortieth(Case c) {
        FeltCold x = Lived.almostFull();
        c.due("walk(0, 1), the 40th", x.walk(0, 1), 3);
        c.due("count(3)", x.count(3), 40);
        c.due("walk(0, 0), the 41st", x.walk(0, 0), FeltCold.FULL);
    }

    private static void p15_walk_fullAt40(Case c) {
        c.full("walk(0, 1)", Lived::full, x -> x.walk(0, 1));
    }

    private static void p15_walk_badAndStateAheadOfFull(Case c) {
        c.bad("walk(6, 1)", Lived::full, x -> x.walk(6, 1));
        c.bad("walk(0, 3)", Lived::full, x -> x.walk(0, 3));
        c.state("walk(0, 0)", Lived::full, x -> x.walk(0, 0));
    }

    private static void p15_walk_tellsNothing(Case c) {
        c.tellsNothing("walk(0, 2)", Lived::town, x -> x.walk(0, 2));
    }

    // ---- 16 hour

    private static void p16_hour_nobodyGetsACold(Case c) {
        FeltCold x = Check.town("r1501o1500o1500");
        c.due("hour()", x.hour(), 0);
        c.due("count(2)", x.count(2), 1);
        c.due("count(3)", x.count(3), 1);
        colds(c, x, 0, 0);
    }

    private static void p16_hour_allOthersGetACold(Case c) {
        FeltCold x = Check.town("r1501o1500s1500t1500m1500f1500a1500");
        x.cold(3);
        c.due("hour()", x.hour(), 63 - 8);
        colds(c, x, 2, 2, 2, 1, 2, 2);
    }

    private static void p16_hour_aloneInARoomNobodyElseGetsOne(Case c) {
        FeltCold x = Check.town("r1501r1501o1500o1501");
        x.cold(0);
        c.due("hour()", x.hour(), 0);
        colds(c, x, 1, 0);
    }

    private static void p16_hour_allAtOnceNotByThoseWhoGetItNow(Case c) {
        FeltCold x = Check.town("r1501r1501o1500o1500o1501");
        x.cold(0);
        c.due("hour()", x.hour(), 2);
        colds(c, x, 1, 2, 0);
        x.walk(1, 1);
        c.due("hour() behind a walk", x.hour(), 4);
        colds(c, x, 0, 1, 2);
    }

    private static void p16_hour_coldInItsLastHourIsCaught(Case c) {
        FeltCold x = Check.town("r1501r1501o1500o1501");
        x.cold(0);
        x.hour();
        x.walk(1, 0);
        c.due("hour()", x.hour(), 2);
        colds(c, x, 0, 2);
    }

    private static void p16_hour_whoGetsRidOfItDoesNotGetItInTheSameHour(Case c) {
        FeltCold x = Check.town("r1501o1500o1500");
        x.cold(0);
        x.hour();
        c.due("hour()", x.hour(), 0);
        colds(c, x, 0, 1);
        c.due("hour(), the next one", x.hour(), 1);
        colds(c, x, 2, 0);
    }

    private static void p16_hour_coldIsNotRenewedByAnother(Case c) {
        FeltCold x = Check.town("r1501r1501o1500o1501");
        x.cold(0);
        x.hour();
        x.cold(1);
        x.walk(1, 0);
        c.due("hour()", x.hour(), 0);
        colds(c, x, 0, 1);
    }

    private static void p16_hour_soupIsLessBut0AtLeast(Case c) {
        FeltCold x = Check.town("r1501o1500");
        c.due("count(5)", x.count(5), 0);
        x.hour();
        c.due("count(5) without", x.count(5), 0);
        x.soup();
        int[] left = {2, 1, 0, 0, 0};
        for (int want : left) {
            x.hour();
            c.due("count(5)", x.count(5), want);
        }
    }

    private static void p16_hour_oldDriftsAtEach6thAlone(Case c) {
        FeltCold x = Check.town("r1501a2000m2000o2000");
        for (int h = 1; h <= 40; h++) {
            x.hour();
            member(c, x, 0, 6, 22 - h / 6);
            member(c, x, 1, 6, 22);
            member(c, x, 2, 6, 20);
        }
    }

    private static void p16_hour_noMembersIsState(Case c) {
        c.state("hour()", Lived::without, x -> x.hour());
        c.state("hour() of a new object", FeltCold::new, x -> x.hour());
    }

    private static void p16_hour_fortieth(Case c) {
        FeltCold x = Lived.almostFull();
        c.due("hour(), the 40th", x.hour() >= 0 ? 1 : 0, 1);
        c.due("count(3)", x.count(3), 40);
        c.due("hour(), the 41st", x.hour(), FeltCold.FULL);
    }

    private static void p16_hour_fullAt40(Case c) {
        c.full("hour()", Lived::full, x -> x.hour());
    }

    private static void p16_hour_tellsNothing(Case c) {
        c.tellsNothing("hour()", Lived::town, x -> x.hour());
    }

    // ---- 17 soup

    private static void p17_soup_for3Hours(Case c) {
        FeltCold x = Check.town("r1501o1500");
        c.due("soup()", x.soup(), 0);
        c.due("count(5)", x.count(5), 3);
        int[] felt = {16, 16, 15};
        for (int want : felt) {
            x.hour();
            member(c, x, 0, 6, want);
        }
    }

    private static void p17_soup_anewIs3AgainNotMore(Case c) {
        FeltCold x = Check.town("r1501o1500");
        x.soup();
        x.soup();
        c.due("count(5) twice", x.count(5), 3);
        x.hour();
        x.hour();
        x.soup();
        c.due("count(5) anew", x.count(5), 3);
        member(c, x, 0, 6, 16);
    }

    private static void p17_soup_nobodyDoesItThen(Case c) {
        FeltCold x = Check.town("r1501o1500m1300f1500t1500");
        c.due("count(6)", x.count(6), 1 + 2 + 8);
        c.due("soup()", x.soup(), 0);
    }

    private static void p17_soup_allDoItThen(Case c) {
        FeltCold x = Check.town("r1501o1400s1400m1200f1300t0590a1200");
        c.due("count(6)", x.count(6), 63 - 2 - 16);
        c.due("soup()", x.soup(), 63);
    }

    private static void p17_soup_whoHasAColdDoesNot(Case c) {
        FeltCold x = Check.town("r1501o1400f1300");
        x.cold(0);
        x.cold(1);
        c.due("soup()", x.soup(), 0);
    }

    private static void p17_soup_inAllRooms(Case c) {
        FeltCold x = Check.town("r1501r1601o1500o1501s1501");
        c.due("soup()", x.soup(), 2 + 4);
    }

    private static void p17_soup_noMembersIsState(Case c) {
        c.state("soup()", Lived::without, x -> x.soup());
        c.state("soup() of a new object", FeltCold::new, x -> x.soup());
    }

    private static void p17_soup_fortieth(Case c) {
        FeltCold x = Lived.almostFull();
        c.due("soup(), the 40th", x.soup() >= 0 ? 1 : 0, 1);
        c.due("count(3)", x.count(3), 40);
        c.due("soup(), the 41st", x.soup(), FeltCold.FULL);
    }

    private static void p17_soup_fullAt40(Case c) {
        c.full("soup()", Lived::full, x -> x.soup());
    }

    private static void p17_soup_tellsNothing(Case c) {
        c.tellsNothing("soup()", Lived::town, x -> x.soup());
    }

    // ---- 18 cold

    private static void p18_cold_firstAndLastMember(Case c) {
        FeltCold x = Check.town("r1501o1500s1500t1500m1500f1500a1500");
        c.due("cold(0)", x.cold(0), 1);
        c.due("cold(5)", x.cold(5), 2);
        colds(c, x, 2, 0, 0, 0, 0, 2);
    }

    private static void p18_cold_allHaveOneThen(Case c) {
        FeltCold x = Check.town("r1501o1500s1500t1500m1500f1500a1500");
        for (int i = 0; i < 6; i++) {
            c.due("cold(" + i + ")", x.cold(i), i + 1);
        }
        c.due("count(6)", x.count(6), 0);
    }

    private static void p18_cold_countsThoseOfOtherRooms(Case c) {
        FeltCold x = Check.town("r1501r1501o1500o1501");
        x.cold(0);
        c.due("cold(1)", x.cold(1), 2);
    }

    private static void p18_cold_whoHasOneIsState(Case c) {
        c.state("cold(2) in its last HOUR", Lived::town, x -> x.cold(2));
        c.state("cold(0) of 2 HOURS", Lived::town, x -> x.cold(0));
    }

    private static void p18_cold_againWhenItIsOver(Case c) {
        FeltCold x = Check.town("r1501o1500");
        x.cold(0);
        x.hour();
        c.due("cold(0) behind 1 HOUR", x.cold(0), FeltCold.STATE);
        x.hour();
        c.due("cold(0) behind 2 HOURS", x.cold(0), 1);
        colds(c, x, 2);
    }

    private static void p18_cold_membersBeyondAreBad(Case c) {
        c.bad("cold(-1)", Lived::town, x -> x.cold(-1));
        c.bad("cold(6)", Lived::town, x -> x.cold(6));
        c.bad("cold(least)", Lived::town, x -> x.cold(LEAST));
        c.bad("cold(greatest)", Lived::town, x -> x.cold(GREATEST));
        c.bad("cold(0) of none", Lived::without, x -> x.cold(0));
    }

    private static void p18_cold_fortieth(Case c) {
        FeltCold x = Lived.almostFull();
        c.due("cold(1), the 40th", x.cold(1), 2);
        c.due("count(3)", x.count(3), 40);
        c.due("cold(2), the 41st", x.cold(2), FeltCold.FULL);
    }

    private static void p18_cold_fullAt40(Case c) {
        c.full("cold(1)", Lived::full, x -> x.cold(1));
    }

    private static void p18_cold_badAndStateAheadOfFull(Case c) {
        c.bad("cold(6)", Lived::full, x -> x.cold(6));
        c.state("cold(0)", Lived::full, x -> x.cold(0));
    }

    private static void p18_cold_tellsNothing(Case c) {
        c.tellsNothing("cold(3)", Lived::town, x -> x.cold(3));
    }

    // ---- 19 love

    private static void p19_love_leastAndGreatestShift(Case c) {
        FeltCold x = Check.town("r1501o1500s1500");
        c.due("love(0, 5)", x.love(0, 5), 0);
        c.due("love(0, -5)", x.love(0, -5), 1);
        c.due("love(1, -5)", x.love(1, -5), 0);
        c.due("love(1, 5)", x.love(1, 5), 1);
        member(c, x, 0, 6, 10);
        member(c, x, 1, 6, 20);
    }

    private static void p19_love_isTheShiftNotAddedToIt(Case c) {
        FeltCold x = Check.town("r1501o1500");
        x.love(0, 3);
        x.love(0, 4);
        member(c, x, 0, 5, 4);
        member(c, x, 0, 6, 19);
    }

    private static void p19_love_shiftsBeyondAreBad(Case c) {
        c.bad("love(0, -6)", Lived::town, x -> x.love(0, -6));
        c.bad("love(0, 6)", Lived::town, x -> x.love(0, 6));
        c.bad("love(0, least)", Lived::town, x -> x.love(0, LEAST));
        c.bad("love(0, greatest)", Lived::town, x -> x.love(0, GREATEST));
    }

    private static void p19_love_membersBeyondAreBad(Case c) {
        c.bad("love(-1, 1)", Lived::town, x -> x.love(-1, 1));
        c.bad("love(6, 1)", Lived::town, x -> x.love(6, 1));
        c.bad("love(least, 1)", Lived::town, x -> x.love(LEAST, 1));
        c.bad("love(greatest, 1)", Lived::town, x -> x.love(GREATEST, 1));
        c.bad("love(0, 1) of none", Lived::without, x -> x.love(0, 1));
    }

    private static void p19_love_whatIsSoIsState(Case c) {
        c.state("love(1, 0) at first", Lived::town, x -> x.love(1, 0));
        c.state("love(0, 3) again", Lived::town, x -> x.love(0, 3));
    }

    private static void p19_love_backTo0(Case c) {
        FeltCold x = Check.town("r1501o1500");
        x.love(0, 1);
        c.due("love(0, 0)", x.love(0, 0), 1);
        c.due("love(0, 0) again", x.love(0, 0), FeltCold.STATE);
        c.due("count(3)", x.count(3), 2);
    }

    private static void p19_love_whoHasAColdDoesNot(Case c) {
        FeltCold x = Check.town("r1501o1500f1500");
        x.cold(0);
        x.cold(1);
        c.due("love(0, -5)", x.love(0, -5), 0);
        c.due("love(1, -5)", x.love(1, -5), 0);
    }

    private static void p19_love_fortieth(Case c) {
        FeltCold x = Lived.almostFull();
        c.due("love(1, 1), the 40th", x.love(1, 1) >= 0 ? 1 : 0, 1);
        c.due("count(3)", x.count(3), 40);
        c.due("love(1, 0), the 41st", x.love(1, 0), FeltCold.FULL);
    }

    private static void p19_love_fullAt40(Case c) {
        c.full("love(0, 1)", Lived::full, x -> x.love(0, 1));
    }

    private static void p19_love_badAndStateAheadOfFull(Case c) {
        c.bad("love(0, 6)", Lived::full, x -> x.love(0, 6));
        c.bad("love(6, 1)", Lived::full, x -> x.love(6, 1));
        c.state("love(0, 0)", Lived::full, x -> x.love(0, 0));
        c.state("love(1, 2)", Lived::full, x -> x.love(1, 2));
    }

    private static void p19_love_tellsNothing(Case c) {
        c.tellsNothing("love(0, 2)", Lived::town, x -> x.love(0, 2));
    }

    // ---- 20 fire

    private static void p20_fire_leastAndGreatestDegree(Case c) {
        FeltCold x = Check.town("r1501r1601o1500");
        c.due("fire(0, 0)", x.fire(0, 0), 15);
        c.due("fire(0, 30)", x.fire(0, 30), 0);
        c.due("room(0, 0)", x.room(0, 0), 30);
        c.due("fire(0, 1)", x.fire(0, 1), 30);
    }

    private static void p20_fire_firstAndLastRoom(Case c) {
        FeltCold x = Check.town("r1501r1601r1701r1801o1500");
        c.due("fire(0, 1)", x.fire(0, 1), 15);
        c.due("fire(3, 2)", x.fire(3, 2), 18);
        int[] want = {1, 16, 17, 2};
        for (int r = 0; r < 4; r++) {
            c.due("room(" + r + ", 0)", x.room(r, 0), want[r]);
        }
    }

    private static void p20_fire_degreesBeyondAreBad(Case c) {
        c.bad("fire(0, -1)", Lived::town, x -> x.fire(0, -1));
        c.bad("fire(0, 31)", Lived::town, x -> x.fire(0, 31));
        c.bad("fire(0, least)", Lived::town, x -> x.fire(0, LEAST));
        c.bad("fire(0, greatest)", Lived::town, x -> x.fire(0, GREATEST));
    }

    private static void p20_fire_roomsBeyondAreBad(Case c) {
        c.bad("fire(-1, 1)", Lived::town, x -> x.fire(-1, 1));
        c.bad("fire(3, 1)", Lived::town, x -> x.fire(3, 1));
        c.bad("fire(least, 1)", Lived::town, x -> x.fire(LEAST, 1));
        c.bad("fire(greatest, 1)", Lived::town, x -> x.fire(GREATEST, 1));
        c.bad("fire(0, 1) of none", Lived::without, x -> x.fire(0, 1));
    }

    private static void p20_fire_whatIsSoIsState(Case c) {
        c.state("fire(0, 12) at first", Lived::town, x -> x.fire(0, 12));
        c.state("fire(1, 21) again", Lived::town, x -> x.fire(1, 21));
        c.state("fire(0, 0) of 0", () -> Check.town("r0001o1500"), x -> x.fire(0, 0));
        c.state("fire(0, 30) of 30", () -> Check.town("r3001o1500"), x -> x.fire(0, 30));
    }

    private static void p20_fire_fortieth(Case c) {
        FeltCold x = Lived.almostFull();
        c.due("fire(2, 6), the 40th", x.fire(2, 6), 5);
        c.due("count(3)", x.count(3), 40);
        c.due("fire(2, 5), the 41st", x.fire(2, 5), FeltCold.FULL);
    }

    private static void p20_fire_fullAt40(Case c) {
        c.full("fire(0, 1)", Lived::full, x -> x.fire(0, 1));
    }

    private static void p20_fire_badAndStateAheadOfFull(Case c) {
        c.bad("fire(0, 31)", Lived::full, x -> x.fire(0, 31));
        c.bad("fire(3, 1)", Lived::full, x -> x.fire(3, 1));
        c.state("fire(0, 12)", Lived::full, x -> x.fire(0, 12));
    }

    private static void p20_fire_tellsNothing(Case c) {
        c.tellsNothing("fire(0, 2)", Lived::town, x -> x.fire(0, 2));
    }

    // ---- 21 undo

    private static void p21_undo_from0On(Case c) {
        FeltCold x = Lived.town();
        c.due("undo(0)", x.undo(0), 6);
        c.due("count(3)", x.count(3), 0);
        c.due("undo(0) again", x.undo(0), 0);
    }

    private static void p21_undo_fromTheLastOn(Case c) {
        FeltCold x = Lived.town();
        c.due("undo(5)", x.undo(5), 1);
        c.due("room(1, 0)", x.room(1, 0), 20);
        c.due("count(3)", x.count(3), 5);
        member(c, x, 0, 5, 3);
    }

    private static void p21_undo_fromBehindTheLastOnIsNone(Case c) {
        c.changesNothing("undo(6)", Lived::town, x -> x.undo(6));
        c.due("undo(6)", Lived.town().undo(6), 0);
        c.due("undo(40)", Lived.full().undo(40), 0);
    }

    private static void p21_undo_numbersBeyondAreBad(Case c) {
        c.bad("undo(-1)", Lived::town, x -> x.undo(-1));
        c.bad("undo(7)", Lived::town, x -> x.undo(7));
        c.bad("undo(41)", Lived::full, x -> x.undo(41));
        c.bad("undo(least)", Lived::town, x -> x.undo(LEAST));
        c.bad("undo(greatest)", Lived::town, x -> x.undo(GREATEST));
    }

    private static void p21_undo_withoutMembers(Case c) {
        c.due("undo(0)", Lived.without().undo(0), 0);
        c.changesNothing("undo(0)", Lived::without, x -> x.undo(0));
        c.bad("undo(1)", Lived::without, x -> x.undo(1));
    }

    private static void p21_undo_all40(Case c) {
        FeltCold x = Lived.full();
        c.due("undo(0)", x.undo(0), 40);
        for (int k = 0; k < 40; k++) {
            c.due("soup() " + k, x.soup() >= 0 ? 1 : 0, 1);
        }
        c.due("soup() 40", x.soup(), FeltCold.FULL);
    }

    private static void p21_undo_fullHasSpaceForOneMore(Case c) {
        FeltCold x = Lived.full();
        c.due("undo(39)", x.undo(39), 1);
        c.due("soup()", x.soup() >= 0 ? 1 : 0, 1);
        c.due("soup(), FULL", x.soup(), FeltCold.FULL);
    }

    private static void p21_undo_hourGivesColdsSoupAndDriftBack(Case c) {
        FeltCold x = Check.town("r1501o1500a1500");
        x.soup();
        x.cold(0);
        for (int h = 0; h < 6; h++) {
            x.hour();
        }
        member(c, x, 1, 6, 16);
        c.due("undo(3)", x.undo(3), 5);
        colds(c, x, 1, 2);
        c.due("count(5)", x.count(5), 2);
        c.due("count(2)", x.count(2), 1);
        member(c, x, 1, 6, 18);
        c.due("undo(2)", x.undo(2), 1);
        colds(c, x, 2, 0);
        c.due("count(5)", x.count(5), 3);
        c.due("count(2)", x.count(2), 0);
    }

    private static void p21_undo_soupAnewGivesTheOldHoursBack(Case c) {
        FeltCold x = Check.town("r1501o1500");
        x.soup();
        x.hour();
        x.hour();
        x.soup();
        c.due("undo(3)", x.undo(3), 1);
        c.due("count(5)", x.count(5), 1);
    }

    private static void p21_undo_walkGivesStepsBack(Case c) {
        FeltCold x = Check.town(FOUR_ROOMS + "o1502");
        x.walk(0, 0);
        x.walk(0, 3);
        c.due("undo(1)", x.undo(1), 1);
        c.due("count(4)", x.count(4), 2);
        member(c, x, 0, 3, 0);
        c.due("undo(0)", x.undo(0), 1);
        c.due("count(4)", x.count(4), 0);
        member(c, x, 0, 3, 2);
    }

    private static void p21_undo_loveAndFireGiveWhatWasBefore(Case c) {
        FeltCold x = Check.town("r1501o1500");
        x.love(0, -5);
        x.fire(0, 30);
        x.love(0, 5);
        x.fire(0, 0);
        x.undo(3);
        c.due("room(0, 0)", x.room(0, 0), 30);
        x.undo(2);
        member(c, x, 0, 5, -5);
        x.undo(1);
        c.due("room(0, 0) at first", x.room(0, 0), 15);
        x.undo(0);
        member(c, x, 0, 5, 0);
    }

    private static void p21_undo_lotsOneByOne(Case c) {
        FeltCold x = Check.town("r1501r1501o1500o1501");
        x.lots(7, 1);
        x.lots(3, 5);
        FeltCold seven = Check.town("r1501r1501o1500o1501");
        seven.lots(7, 1);
        c.due("undo(7)", x.undo(7), 3);
        c.due("digest()", x.digest(), seven.digest());
        c.due("undo(6)", x.undo(6), 1);
        c.due("count(3)", x.count(3), 6);
    }

    private static void p21_undo_keptTownsRowsTextsToldAndFindingsStay(Case c) {
        FeltCold x = Lived.town();
        FeltCold same = Lived.town();
        x.undo(0);
        c.due("count(8)", x.count(8), 4);
        c.due("count(9)", x.count(9), 3);
        c.due("count(10)", x.count(10), 2);
        c.due("finding()", x.finding(), same.finding());
        for (int f = 1; f <= 5; f++) {
            c.due("findings(" + f + ")", x.findings(f), same.findings(f));
        }
        c.due("on(2)", x.on(2), same.on(2));
        c.due("digest()", x.digest(), same.digest());
        c.tellsNothing("undo(0)", Lived::town, y -> y.undo(0));
    }

    // ---- 22 keep

    private static void p22_keep_places0And2AreTaken(Case c) {
        FeltCold x = Check.town("r1501o1500");
        c.due("keep(0)", x.keep(0), 0);
        c.due("keep(2)", x.keep(2), 0);
        c.due("count(10)", x.count(10), 2);
        c.due("keep(1)", x.keep(1), 0);
        c.due("count(10)", x.count(10), 3);
    }

    private static void p22_keep_placesBeyondAreBad(Case c) {
        c.bad("keep(-1)", Lived::town, x -> x.keep(-1));
        c.bad("keep(3)", Lived::town, x -> x.keep(3));
        c.bad("keep(least)", Lived::town, x -> x.keep(LEAST));
        c.bad("keep(greatest)", Lived::town, x -> x.keep(GREATEST));
    }

    private static void p22_keep_noMembersIsState(Case c) {
        c.state("keep(0)", Lived::without, x -> x.keep(0));
        c.state("keep(2) of a new object", FeltCold::new, x -> x.keep(2));
    }

    private static void p22_keep_badAheadOfState(Case c) {
        c.bad("keep(-1)", Lived::without, x -> x.keep(-1));
        c.bad("keep(3)", Lived::without, x -> x.keep(3));
    }

    private static void p22_keep_with40Deeds(Case c) {
        FeltCold x = Lived.full();
        long digest = x.digest();
        c.due("keep(1)", x.keep(1), 40);
        c.due("digest()", x.digest(), digest);
        x.undo(0);
        c.due("on(1)", x.on(1), 40);
        c.due("digest() then", x.digest(), digest);
        c.due("soup()", x.soup(), FeltCold.FULL);
    }

    private static void p22_keep_anewOverAKeptOne(Case c) {
        FeltCold x = Check.town("r1501o1500");
        x.love(0, 1);
        x.love(0, 2);
        c.due("keep(1)", x.keep(1), 2);
        x.undo(0);
        x.fire(0, 3);
        c.due("keep(1) anew", x.keep(1), 1);
        c.due("count(10)", x.count(10), 1);
        x.undo(0);
        c.due("on(1)", x.on(1), 1);
        c.due("room(0, 0)", x.room(0, 0), 3);
        member(c, x, 0, 5, 0);
    }

    private static void p22_keep_laterDeedsDoNotTouchIt(Case c) {
        FeltCold x = Check.town("r1501o1500");
        x.love(0, 1);
        x.keep(0);
        x.undo(0);
        x.love(0, 2);
        x.love(0, 3);
        c.due("on(0)", x.on(0), 1);
        member(c, x, 0, 5, 1);
    }

    private static void p22_keep_townGoesOnAsItIs(Case c) {
        FeltCold x = Lived.town();
        c.due("keep(1)", x.keep(1), 6);
        FeltCold same = Lived.town();
        for (int what = 0; what <= 9; what++) {
            c.due("count(" + what + ")", x.count(what), same.count(what));
        }
        c.due("undo(0)", x.undo(0), 6);
        c.tellsNothing("keep(1)", Lived::town, y -> y.keep(1));
    }

    // ---- 23 on

    private static void p23_on_places0And2AreTaken(Case c) {
        FeltCold x = Lived.town();
        c.due("on(0)", x.on(0), 1);
        c.due("count(3)", x.count(3), 1);
        c.due("count(5)", x.count(5), 3);
        c.due("on(2)", x.on(2), 4);
        c.due("count(3)", x.count(3), 4);
        c.due("count(5)", x.count(5), 2);
    }

    private static void p23_on_placesBeyondAreBad(Case c) {
        c.bad("on(-1)", Lived::town, x -> x.on(-1));
        c.bad("on(3)", Lived::town, x -> x.on(3));
        c.bad("on(least)", Lived::town, x -> x.on(LEAST));
        c.bad("on(greatest)", Lived::town, x -> x.on(GREATEST));
        c.bad("on(3) of none", Lived::without, x -> x.on(3));
    }

    private static void p23_on_missingIsNothing(Case c) {
        c.found("on(1)", Lived::town, x -> x.on(1), NOTHING);
        c.found("on(0)", Lived::full, x -> x.on(0), NOTHING);
        c.found("on(0) of none", Lived::without, x -> x.on(0), NOTHING);
    }

    private static void p23_on_twiceIsTheSame(Case c) {
        FeltCold x = Lived.town();
        c.due("on(2)", x.on(2), 4);
        long digest = x.digest();
        x.soup();
        x.walk(0, 2);
        c.due("on(2) again", x.on(2), 4);
        c.due("digest()", x.digest(), digest);
    }

    private static void p23_on_deedsCanBeUndoneThen(Case c) {
        FeltCold x = Lived.town();
        x.on(2);
        c.due("undo(1)", x.undo(1), 3);
        c.due("count(5)", x.count(5), 3);
        colds(c, x, 0, 0, 0, 0, 0, 0);
        c.due("undo(0)", x.undo(0), 1);
        c.due("count(5)", x.count(5), 0);
    }

    private static void p23_on_from40DeedsToFewerThereIsSpace(Case c) {
        FeltCold x = Check.town("r1501o1500");
        x.keep(0);
        for (int k = 0; k < 40; k++) {
            x.soup();
        }
        c.due("soup()", x.soup(), FeltCold.FULL);
        c.due("on(0)", x.on(0), 0);
        c.due("soup() then", x.soup(), 0);
    }

    private static void p23_on_withNoDeedsIsAsAtFirst(Case c) {
        FeltCold x = Check.town(Lived.TEXT);
        x.keep(1);
        long digest = x.digest();
        x.lots(20, 99);
        c.due("on(1)", x.on(1), 0);
        c.due("digest()", x.digest(), digest);
    }

    private static void p23_on_otherKeptTownsStay(Case c) {
        FeltCold x = Lived.town();
        x.on(0);
        c.due("count(10)", x.count(10), 2);
        c.due("on(2)", x.on(2), 4);
        c.due("on(0)", x.on(0), 1);
        c.tellsNothing("on(2)", Lived::town, y -> y.on(2));
    }

    private static void p23_on_withTheTownAsItIsChangesNothing(Case c) {
        FeltCold x = Lived.town();
        x.keep(1);
        long digest = x.digest();
        c.due("on(1)", x.on(1), 6);
        c.due("digest()", x.digest(), digest);
    }
}
