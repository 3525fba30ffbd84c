/** Promises 10 to 14, edge by edge: FAULTS, TOWNS, MEMBERS, ROOMS, MARKS. */
public final class EdgesTownTest {
    private static final int LEAST = Lived.LEAST, GREATEST = Lived.GREATEST;
    private static final int NOTHING = 1, UNLIKE = 3;
    private static final String FOUR_ROOMS = "r1501r1501r1501r1501";
    private static final String SIX = "o1500s1500t1500m1500f1500a1500";

    public static void main(String[] args) throws IllegalAccessException {
        Cases.run(EdgesTownTest.class);
    }

    // ---- 10 fault

    /** A TEXT with a FAULT makes no TOWN, either. */
    private static void fault(Case c, String text, int place) {
        FeltCold x = new FeltCold();
        Check.write(x, 0, text);
        c.due("fault of \"" + text + "\"", x.fault(0), place);
        c.due("town of \"" + text + "\"", x.town(0), FeltCold.STATE);
        c.due("count(0) then", x.count(0), 0);
        c.due("count(1) then", x.count(1), 0);
    }

    private static FeltCold right(Case c, String text, int members) {
        FeltCold x = new FeltCold();
        Check.write(x, 0, text);
        c.due("fault of \"" + text + "\"", x.fault(0), FeltCold.NONE);
        c.due("town of \"" + text + "\"", x.town(0), members);
        return x;
    }

    private static void p10_fault_emptyTextIsItsSize(Case c) {
        fault(c, "", 0);
    }

    private static void p10_fault_blanksAloneAreTheSize(Case c) {
        fault(c, " ", 1);
        fault(c, "   ", 3);
        fault(c, " ".repeat(60), 60);
    }

    private static void p10_fault_endTooEarlyInARoom(Case c) {
        fault(c, "r", 1);
        fault(c, "r1", 2);
        fault(c, "r15", 3);
        fault(c, "r150", 4);
        fault(c, "  r150", 6);
    }

    private static void p10_fault_endTooEarlyInAMember(Case c) {
        fault(c, "r1501o", 6);
        fault(c, "r1501o1", 7);
        fault(c, "r1501o15", 8);
        fault(c, "r1501o150", 9);
        fault(c, "r1501o1500 s", 12);
    }

    private static void p10_fault_endTooEarlyBehindOneFigureThatCannotBe(Case c) {
        fault(c, "r4", 2);
        fault(c, "r159", 4);
        fault(c, "r1501o9", 7);
    }

    private static void p10_fault_endTooEarlyAtAFullText(Case c) {
        String text = FOUR_ROOMS + SIX.substring(5) + " ".repeat(11) + "o150";
        fault(c, text, 60);
    }

    private static void p10_fault_noMemberIsTheSize(Case c) {
        fault(c, "r1501", 5);
        fault(c, "r1501  ", 7);
        fault(c, FOUR_ROOMS, 20);
        fault(c, FOUR_ROOMS + " ".repeat(40), 60);
    }

    private static void p10_fault_degreeOfARoomFrom00To30(Case c) {
        right(c, "r0001o1500", 1);
        right(c, "r3001o1500", 1);
        fault(c, "r3101o1500", 1);
        fault(c, "r4001o1500", 1);
        fault(c, "r9901o1500", 1);
    }

    private static void p10_fault_needFrom01To31(Case c) {
        right(c, "r1501o1500", 1);
        right(c, "r1531o1500", 1);
        fault(c, "r1500o1500", 3);
        fault(c, "r1532o1500", 3);
        fault(c, "r1540o1500", 3);
        fault(c, "r1599o1500", 3);
    }

    private static void p10_fault_markFrom00To30(Case c) {
        right(c, "r1501o0000", 1);
        right(c, "r1501o3000", 1);
        fault(c, "r1501o3100", 6);
        fault(c, "r1501o9900", 6);
    }

    private static void p10_fault_widthFrom0To9(Case c) {
        right(c, "r1501o1500", 1);
        right(c, "r1501o1590", 1);
        fault(c, "r1501o15/0", 8);
        fault(c, "r1501o15:0", 8);
    }

    private static void p10_fault_roomOfAMemberIsOneThatThereIs(Case c) {
        right(c, "r1501o1500", 1);
        fault(c, "r1501o1501", 9);
        right(c, "r1501r1501o1501", 1);
        fault(c, "r1501r1501o1502", 14);
        right(c, FOUR_ROOMS + "o1503", 1);
        fault(c, FOUR_ROOMS + "o1504", 24);
        fault(c, FOUR_ROOMS + "o1509", 24);
    }

    private static void p10_fault_roomOfAMemberIsAFigure(Case c) {
        fault(c, "r1501o150/", 9);
        fault(c, "r1501o150:", 9);
        fault(c, "r1501o150 ", 9);
        fault(c, "r1501o150o", 9);
    }

    private static void p10_fault_firstFigureIsNone(Case c) {
        fault(c, "r/501o1500", 1);
        fault(c, "r:501o1500", 1);
        fault(c, "r15/1o1500", 3);
        fault(c, "r15:1o1500", 3);
        fault(c, "r1501o/500", 6);
        fault(c, "r1501o:500", 6);
        fault(c, "r-501o1500", 1);
    }

    private static void p10_fault_secondFigureIsNone(Case c) {
        fault(c, "r1/01o1500", 2);
        fault(c, "r1:01o1500", 2);
        fault(c, "r150/o1500", 4);
        fault(c, "r1501o1/00", 7);
        fault(c, "r1501o1:00", 7);
    }

    private static void p10_fault_secondFigureIsNoneBehindOneThatCannotBe(Case c) {
        fault(c, "r4x01o1500", 2);
        fault(c, "r159xo1500", 4);
        fault(c, "r1501o9x00", 7);
    }

    private static void p10_fault_firstOfSeveral(Case c) {
        fault(c, "r3100o3109", 1);
        fault(c, "r1500x", 3);
        fault(c, "x r3100", 0);
        fault(c, "r1501o3109", 6);
        fault(c, "r1501o15x9", 8);
    }

    private static void p10_fault_oneRoomAtLeast(Case c) {
        fault(c, "o1500", 0);
        fault(c, "  s1500", 2);
        fault(c, "o1500r1501", 0);
    }

    private static void p10_fault_fourRoomsAtMost(Case c) {
        right(c, FOUR_ROOMS + "o1500", 1);
        fault(c, FOUR_ROOMS + "r1501o1500", 20);
        fault(c, FOUR_ROOMS + "  r1501o1500", 22);
        fault(c, FOUR_ROOMS + "r", 20);
        fault(c, FOUR_ROOMS + "r99", 20);
    }

    private static void p10_fault_roomBehindAMember(Case c) {
        fault(c, "r1501o1500r1501", 10);
        fault(c, "r1501o1500 r1501", 11);
        fault(c, "r1501o1500r", 10);
        fault(c, "r1501" + SIX + "r1501", 35);
    }

    private static void p10_fault_sixMembersAtMost(Case c) {
        right(c, "r1501" + SIX, 6);
        fault(c, "r1501" + SIX + "o1500", 35);
        fault(c, "r1501" + SIX + " a1500", 36);
        fault(c, "r1501" + SIX + "o", 35);
    }

    private static void p10_fault_noLetterBehindTheSixth(Case c) {
        fault(c, "r1501" + SIX + "x", 35);
        fault(c, "r1501" + SIX + "  5", 37);
        fault(c, FOUR_ROOMS + SIX + "          ".substring(1) + "o", 59);
    }

    private static void p10_fault_mostRoomsAndMostMembersInAFullText(Case c) {
        FeltCold x = right(c, "     " + FOUR_ROOMS + SIX + "     ", 6);
        c.due("count(1)", x.count(1), 4);
        right(c, " r1501 r1501 r1501 r1501 o1500 s1500 t1500 m1500 f1500 a1500", 6);
    }

    private static void p10_fault_lettersOfKindsAlone(Case c) {
        String letters = "ostmfa";
        for (char sign = 33; sign < 127; sign++) {
            String text = "r1501" + sign + "1500";
            if (letters.indexOf(sign) >= 0) {
                right(c, text, 1);
            } else if (sign != 'r') {
                fault(c, text, 5);
            }
        }
    }

    private static void p10_fault_letterOfRoomsAlone(Case c) {
        for (char sign = 33; sign < 127; sign++) {
            if (sign != 'r') {
                fault(c, sign + "1501o1500", 0);
            }
        }
    }

    private static void p10_fault_blanksAheadBetweenBehind(Case c) {
        right(c, "r1501o1500", 1);
        right(c, " r1501o1500", 1);
        right(c, "r1501 o1500", 1);
        right(c, "r1501o1500 ", 1);
        right(c, "   r1501    r1501   o1500     s1501     ", 2);
        right(c, " ".repeat(50) + "r1501o1500", 1);
        right(c, "r1501" + " ".repeat(50) + "o1500", 1);
        right(c, "r1501o1500" + " ".repeat(50), 1);
    }

    private static void p10_fault_blanksWithinItems(Case c) {
        fault(c, "r 1501o1500", 1);
        fault(c, "r1 501o1500", 2);
        fault(c, "r15 01o1500", 3);
        fault(c, "r150 1o1500", 4);
        fault(c, "r1501o 1500", 6);
        fault(c, "r1501o1 500", 7);
        fault(c, "r1501o15 00", 8);
        fault(c, "r1501o150 0", 9);
    }

    private static void p10_fault_otherWhiteIsNoBlank(Case c) {
        fault(c, "\tr1501o1500", 0);
        fault(c, "r1501\no1500", 5);
        fault(c, "r1501o1500\0", 10);
    }

    private static void p10_fault_bytesBelow0AreNoSigns(Case c) {
        FeltCold x = new FeltCold();
        Check.write(x, 0, "r1501o1500");
        x.put(0, 0, 114 + 128);
        c.due("fault of a letter 128 more", x.fault(0), 0);
        x.put(0, 0, 114);
        x.put(0, 1, 49 + 128);
        c.due("fault of a figure 128 more", x.fault(0), 1);
        x.put(0, 1, 49);
        x.put(0, 5, -128);
        c.due("fault of the least byte", x.fault(0), 5);
    }

    private static void p10_fault_bytesThatWrappedAroundAreSigns(Case c) {
        FeltCold x = new FeltCold();
        Check.write(x, 0, "r1501o1500");
        x.put(0, 0, 114 + 256);
        x.put(0, 1, 49 - 256);
        x.put(0, 5, 111 + 512);
        c.due("fault of cut bytes", x.fault(0), FeltCold.NONE);
    }

    private static void p10_fault_missingIsNothing(Case c) {
        c.found("fault(3)", Lived::town, x -> x.fault(3), NOTHING);
    }

    private static void p10_fault_textsBeyondAreBad(Case c) {
        c.bad("fault(-1)", Lived::town, x -> x.fault(-1));
        c.bad("fault(4)", Lived::town, x -> x.fault(4));
        c.bad("fault(least)", Lived::town, x -> x.fault(LEAST));
        c.bad("fault(greatest)", Lived::town, x -> x.fault(GREATEST));
    }

    private static void p10_fault_changesNothing(Case c) {
        c.changesNothing("fault(1)", Lived::town, x -> x.fault(1));
        c.changesNothing("fault(2)", Lived::town, x -> x.fault(2));
        c.tellsNothing("fault(1)", Lived::town, x -> x.fault(1));
        c.none("fault(0)", Lived::town, x -> x.fault(0));
    }

    // ---- 11 town

    private static void p11_town_oneMemberAndSixAreTaken(Case c) {
        FeltCold one = right(c, "r1501o1500", 1);
        c.due("count(0)", one.count(0), 1);
        c.due("count(1)", one.count(1), 1);
        FeltCold six = right(c, FOUR_ROOMS + SIX, 6);
        c.due("count(0)", six.count(0), 6);
        c.due("count(1)", six.count(1), 4);
    }

    private static void p11_town_itemsCountFrom0AsTheyCome(Case c) {
        FeltCold x = right(c, "r0131 r0230 r0329 r0428 a0743 f0632 m0521", 3);
        for (int r = 0; r < 4; r++) {
            c.due("room(" + r + ", 0)", x.room(r, 0), r + 1);
            c.due("room(" + r + ", 1)", x.room(r, 1), 31 - r);
        }
        for (int i = 0; i < 3; i++) {
            c.told("member(" + i + ", 0)", x, x.member(i, 0), 1, 5 - (i == 0 ? 0 : i == 1 ? 1 : 2));
            c.told("member(" + i + ", 1)", x, x.member(i, 1), 1, 7 - i);
            c.told("member(" + i + ", 2)", x, x.member(i, 2), 1, 4 - i);
            c.told("member(" + i + ", 3)", x, x.member(i, 3), 1, 3 - i);
        }
    }

    private static void p11_town_anewAllIsAsAtFirst(Case c) {
        FeltCold x = Lived.town();
        FeltCold fresh = Check.town(Lived.TEXT);
        c.due("town(0)", x.town(0), 6);
        for (int what = 0; what <= 7; what++) {
            c.due("count(" + what + ")", x.count(what), fresh.count(what));
        }
        for (int i = 0; i < 6; i++) {
            for (int what = 0; what <= 7; what++) {
                x.member(i, what);
                fresh.member(i, what);
                c.due("member(" + i + ", " + what + ")", x.asked(), fresh.asked());
            }
        }
        for (int r = 0; r < 3; r++) {
            for (int what = 0; what <= 3; what++) {
                c.due("room(" + r + ", " + what + ")", x.room(r, what), fresh.room(r, what));
            }
        }
        c.due("undo(0)", x.undo(0), 0);
    }

    private static void p11_town_anewFromFullThereIsSpaceFor40(Case c) {
        FeltCold x = Lived.full();
        x.town(0);
        for (int k = 0; k < 40; k++) {
            c.due("soup() " + k, x.soup() >= 0 ? 1 : 0, 1);
        }
        c.due("soup() 40", x.soup(), FeltCold.FULL);
    }

    private static void p11_town_keptTownsGo(Case c) {
        FeltCold x = Lived.town();
        c.due("count(10) ahead", x.count(10), 2);
        x.town(0);
        c.due("count(10)", x.count(10), 0);
        for (int k = 0; k < 3; k++) {
            c.finding("on(" + k + ")", x, x.on(k), NOTHING);
        }
    }

    private static void p11_town_rowsTextsFindingsAndToldStay(Case c) {
        FeltCold x = Lived.town();
        int asked = x.asked();
        long upper = x.upper();
        long lower = x.lower();
        x.town(0);
        c.due("asked()", x.asked(), asked);
        c.due("upper()", x.upper(), upper);
        c.due("lower()", x.lower(), lower);
        c.due("finding()", x.finding(), 4);
        for (int f = 1; f <= 5; f++) {
            c.due("findings(" + f + ")", x.findings(f), 1);
        }
        c.due("count(8)", x.count(8), 4);
        c.due("count(9)", x.count(9), 3);
        c.told("at(1, 0)", x, x.at(1, 0), 1, 12);
        c.due("fault(1)", x.fault(1), 5);
    }

    private static void p11_town_smallerOneLeavesNothingOfTheGreater(Case c) {
        FeltCold x = Lived.town();
        Check.write(x, 3, "r0905m0790");
        c.due("town(3)", x.town(3), 1);
        c.due("count(1)", x.count(1), 1);
        c.due("room(0, 2)", x.room(0, 2), 1);
        c.due("room(1, 0)", x.room(1, 0), FeltCold.BAD);
        c.due("member(1, 0)", x.member(1, 0), FeltCold.BAD);
        c.due("spanBy(0, 2)", x.spanBy(0, 2), FeltCold.BAD);
    }

    private static void p11_town_textChangedAfterwardsDoesNotMatter(Case c) {
        FeltCold x = Lived.town();
        FeltCold same = Lived.town();
        x.put(0, 0, 120);
        c.due("undo(0)", x.undo(0), same.undo(0));
        c.due("room(0, 0)", x.room(0, 0), 12);
        c.due("on(2)", x.on(2), same.on(2));
        c.due("count(6)", x.count(6), same.count(6));
        x.text(0, 0);
        c.due("undo(0) again", x.undo(0), same.undo(0));
        c.due("count(0)", x.count(0), 6);
    }

    private static void p11_town_faultIsState(Case c) {
        c.state("town(1)", Lived::town, x -> x.town(1));
        c.state("town(2)", Lived::town, x -> x.town(2));
        c.state("town(1) with 40 DEEDS", Lived::full, x -> x.town(1));
        c.state("town(1) with none", Lived::without, x -> x.town(1));
    }

    private static void p11_town_missingIsNothingAheadOfState(Case c) {
        c.found("town(3)", Lived::town, x -> x.town(3), NOTHING);
        c.found("town(3) with none", Lived::without, x -> x.town(3), NOTHING);
    }

    private static void p11_town_textsBeyondAreBad(Case c) {
        c.bad("town(-1)", Lived::town, x -> x.town(-1));
        c.bad("town(4)", Lived::town, x -> x.town(4));
        c.bad("town(least)", Lived::town, x -> x.town(LEAST));
        c.bad("town(greatest)", Lived::town, x -> x.town(GREATEST));
    }

    // ---- 12 member

    private static void member(Case c, FeltCold x, int i, int what, int want) {
        c.told("member(" + i + ", " + what + ")", x, x.member(i, what), 1, want);
    }

    private static void p12_member_firstAndLastAreTaken(Case c) {
        FeltCold x = Check.town(Lived.TEXT);
        member(c, x, 0, 0, 0);
        member(c, x, 5, 0, 5);
        FeltCold one = Check.town("r1501f1500");
        member(c, one, 0, 0, 4);
        c.due("member(1, 0)", one.member(1, 0), FeltCold.BAD);
    }

    private static void p12_member_membersBeyondAreBad(Case c) {
        c.bad("member(-1, 0)", Lived::town, x -> x.member(-1, 0));
        c.bad("member(6, 0)", Lived::town, x -> x.member(6, 0));
        c.bad("member(least, 0)", Lived::town, x -> x.member(LEAST, 0));
        c.bad("member(greatest, 0)", Lived::town, x -> x.member(GREATEST, 0));
        c.bad("member(0, 0) of none", Lived::without, x -> x.member(0, 0));
    }

    private static void p12_member_whatBeyondIsBad(Case c) {
        c.bad("member(0, -1)", Lived::town, x -> x.member(0, -1));
        c.bad("member(0, 8)", Lived::town, x -> x.member(0, 8));
        c.bad("member(0, least)", Lived::town, x -> x.member(0, LEAST));
        c.bad("member(0, greatest)", Lived::town, x -> x.member(0, GREATEST));
    }

    private static void p12_member_kindsFrom0To5(Case c) {
        FeltCold x = Check.town("r1501" + SIX);
        for (int i = 0; i < 6; i++) {
            member(c, x, i, 0, i);
        }
    }

    private static void p12_member_markAndWidthAtTheirEnds(Case c) {
        FeltCold x = Check.town("r1501o0000o3090");
        member(c, x, 0, 1, 0);
        member(c, x, 0, 2, 0);
        member(c, x, 1, 1, 30);
        member(c, x, 1, 2, 9);
    }

    private static void p12_member_markStaysBehindLoveAndSoup(Case c) {
        FeltCold x = Check.town("r1501m1000");
        x.love(0, 5);
        x.soup();
        member(c, x, 0, 1, 10);
        member(c, x, 0, 6, 18);
    }

    private static void p12_member_roomFirstAndLast(Case c) {
        FeltCold x = Check.town(FOUR_ROOMS + "o1500o1503");
        member(c, x, 0, 3, 0);
        member(c, x, 1, 3, 3);
        x.walk(0, 3);
        x.walk(1, 0);
        member(c, x, 0, 3, 3);
        member(c, x, 1, 3, 0);
    }

    private static void p12_member_hoursOfAColdFrom2To0(Case c) {
        FeltCold x = Check.town("r1501o1500");
        member(c, x, 0, 4, 0);
        x.cold(0);
        member(c, x, 0, 4, 2);
        x.hour();
        member(c, x, 0, 4, 1);
        x.hour();
        member(c, x, 0, 4, 0);
        x.hour();
        member(c, x, 0, 4, 0);
    }

    private static void p12_member_shiftAtItsEnds(Case c) {
        FeltCold x = Check.town("r1501o1500");
        member(c, x, 0, 5, 0);
        x.love(0, -5);
        member(c, x, 0, 5, -5);
        x.love(0, 5);
        member(c, x, 0, 5, 5);
    }

    private static void p12_member_feelsBelow0(Case c) {
        FeltCold x = Check.town("r1501o0000");
        x.love(0, -1);
        member(c, x, 0, 6, -1);
        x.love(0, -5);
        member(c, x, 0, 6, -5);
    }

    private static void p12_member_feelsFarBelow0IfOld(Case c) {
        FeltCold x = Check.town("r1501a0000");
        x.love(0, -5);
        for (int h = 0; h < 39; h++) {
            x.hour();
        }
        member(c, x, 0, 6, -5 + 2 - 6);
    }

    private static void p12_member_feelsAbove30(Case c) {
        FeltCold x = Check.town("r1501o3000m3000a3000");
        for (int i = 0; i < 3; i++) {
            x.love(i, 5);
        }
        member(c, x, 0, 6, 35);
        member(c, x, 1, 6, 37);
        x.soup();
        member(c, x, 0, 6, 36);
        member(c, x, 1, 6, 38);
        member(c, x, 2, 6, 38);
    }

    private static void p12_member_doesItOrNot(Case c) {
        FeltCold x = Check.town("r1501o1500o1600");
        member(c, x, 0, 7, 1);
        member(c, x, 1, 7, 0);
        x.cold(0);
        member(c, x, 0, 7, 0);
    }

    private static void p12_member_changesNothing(Case c) {
        for (int k = 0; k <= 7; k++) {
            int what = k;
            c.changesNothing("member(3, " + k + ")", Lived::town, x -> x.member(3, what));
        }
    }

    // ---- 13 room

    private static void p13_room_firstAndLastAreTaken(Case c) {
        FeltCold x = Check.town("r0001r0102r0203r3031o1500");
        c.due("room(0, 0)", x.room(0, 0), 0);
        c.due("room(0, 1)", x.room(0, 1), 1);
        c.due("room(3, 0)", x.room(3, 0), 30);
        c.due("room(3, 1)", x.room(3, 1), 31);
    }

    private static void p13_room_roomsBeyondAreBad(Case c) {
        c.bad("room(-1, 0)", Lived::town, x -> x.room(-1, 0));
        c.bad("room(3, 0)", Lived::town, x -> x.room(3, 0));
        c.bad("room(4, 0)", Lived::town, x -> x.room(4, 0));
        c.bad("room(least, 0)", Lived::town, x -> x.room(LEAST, 0));
        c.bad("room(greatest, 0)", Lived::town, x -> x.room(GREATEST, 0));
        c.bad("room(0, 0) of none", Lived::without, x -> x.room(0, 0));
    }

    private static void p13_room_whatBeyondIsBad(Case c) {
        c.bad("room(0, -1)", Lived::town, x -> x.room(0, -1));
        c.bad("room(0, 4)", Lived::town, x -> x.room(0, 4));
        c.bad("room(0, least)", Lived::town, x -> x.room(0, LEAST));
        c.bad("room(0, greatest)", Lived::town, x -> x.room(0, GREATEST));
    }

    private static void p13_room_nobodyIsThere(Case c) {
        FeltCold x = Check.town("r1501r1501o1500");
        c.due("room(1, 2)", x.room(1, 2), 0);
        c.due("room(1, 3)", x.room(1, 3), 0);
    }

    private static void p13_room_allAreThere(Case c) {
        FeltCold x = Check.town("r1501r1501o1501o1501o1501o1501o1501o1501");
        c.due("room(1, 2)", x.room(1, 2), 63);
        c.due("room(1, 3)", x.room(1, 3), 63);
        c.due("room(0, 2)", x.room(0, 2), 0);
    }

    private static void p13_room_whoHasAColdIsThereButDoesNot(Case c) {
        FeltCold x = Check.town("r1501o1500o1400");
        x.cold(1);
        c.due("room(0, 2)", x.room(0, 2), 3);
        c.due("room(0, 3)", x.room(0, 3), 1);
    }

    private static void p13_room_doersOfOtherRoomsDoNotCount(Case c) {
        FeltCold x = Check.town("r1501r1501o1500o1401");
        c.due("room(0, 3)", x.room(0, 3), 1);
        c.due("room(1, 3)", x.room(1, 3), 2);
    }

    private static void p13_room_changesAndTellsNothing(Case c) {
        for (int k = 0; k <= 3; k++) {
            int what = k;
            c.changesNothing("room(1, " + k + ")", Lived::town, x -> x.room(1, what));
            c.tellsNothing("room(1, " + k + ")", Lived::town, x -> x.room(1, what));
        }
    }

    // ---- 14 mark

    private static void p14_mark_kind0IsBad(Case c) {
        for (int k = 0; k < 6; k++) {
            int i = k;
            c.bad("mark(" + k + ", 0)", Lived::town, x -> x.mark(i, 0));
        }
    }

    private static void p14_mark_kindsBeyondAreBadAheadOfUnlike(Case c) {
        c.bad("mark(0, -1)", Lived::town, x -> x.mark(0, -1));
        c.bad("mark(5, 6)", Lived::town, x -> x.mark(5, 6));
        c.bad("mark(0, least)", Lived::town, x -> x.mark(0, LEAST));
        c.bad("mark(0, greatest)", Lived::town, x -> x.mark(0, GREATEST));
    }

    private static void p14_mark_membersBeyondAreBad(Case c) {
        c.bad("mark(-1, 1)", Lived::town, x -> x.mark(-1, 1));
        c.bad("mark(6, 1)", Lived::town, x -> x.mark(6, 1));
        c.bad("mark(least, 5)", Lived::town, x -> x.mark(LEAST, 5));
        c.bad("mark(greatest, 5)", Lived::town, x -> x.mark(GREATEST, 5));
        c.bad("mark(0, 1) of none", Lived::without, x -> x.mark(0, 1));
    }

    private static void p14_mark_anotherKindIsUnlike(Case c) {
        int[][] alike = {{}, {1}, {2}, {3}, {1, 4}, {3, 5}};
        for (int i = 0; i < 6; i++) {
            for (int kind = 1; kind <= 5; kind++) {
                int who = i;
                int asked = kind;
                boolean is = java.util.Arrays.binarySearch(alike[i], kind) >= 0;
                if (is) {
                    c.changesNothing("mark(" + i + ", " + kind + ")", Lived::town, x -> x.mark(who, asked));
                } else {
                    c.found("mark(" + i + ", " + kind + ")", Lived::town, x -> x.mark(who, asked), UNLIKE);
                }
            }
        }
    }

    private static void p14_mark_sneezerAtNoDegreeAndAtAll(Case c) {
        FeltCold x = Check.town("r1501s0000s3000");
        c.due("mark(0, 1) of 0", x.mark(0, 1), 1);
        c.due("mark(1, 1) of 30", x.mark(1, 1), 31);
        x.love(0, -1);
        x.love(1, 1);
        c.due("mark(0, 1) of -1", x.mark(0, 1), 0);
        c.due("mark(1, 1) of 31", x.mark(1, 1), 31);
        x.love(0, -5);
        x.love(1, -1);
        c.due("mark(0, 1) of -5", x.mark(0, 1), 0);
        c.due("mark(1, 1) of 29", x.mark(1, 1), 30);
    }

    private static void p14_mark_feverishAsASneezerAtNoDegreeAndAtAll(Case c) {
        FeltCold x = Check.town("r1501f0000f3000");
        c.due("mark(0, 1) of 0", x.mark(0, 1), 30);
        c.due("mark(1, 1) of 30", x.mark(1, 1), 0);
        x.love(0, -1);
        x.love(1, -1);
        c.due("mark(0, 1) of -1", x.mark(0, 1), 31);
        c.due("mark(1, 1) of 29", x.mark(1, 1), 1);
        x.love(1, 5);
        c.due("mark(1, 1) of 35", x.mark(1, 1), 0);
    }

    private static void p14_mark_sneezerColdAside(Case c) {
        FeltCold x = Check.town("r1501s1000f1000");
        x.cold(0);
        x.cold(1);
        c.due("mark(0, 1)", x.mark(0, 1), 11);
        c.due("mark(1, 1)", x.mark(1, 1), 20);
    }

    private static void p14_mark_sneezerBySoup(Case c) {
        FeltCold x = Check.town("r1501s1000f1000");
        x.soup();
        c.due("mark(0, 1)", x.mark(0, 1), 12);
        c.due("mark(1, 1)", x.mark(1, 1), 19);
    }

    private static void p14_mark_twinsNoneAndFiveOthers(Case c) {
        FeltCold x = Check.town("r1501r1501t1500t1500t1500t1500t1500t1500");
        for (int i = 0; i < 6; i++) {
            c.due("mark(" + i + ", 2)", x.mark(i, 2), 5);
        }
        x.walk(3, 1);
        c.due("mark(3, 2) alone", x.mark(3, 2), 0);
        c.due("mark(0, 2) without him", x.mark(0, 2), 4);
    }

    private static void p14_mark_otherKindsAreNoTwins(Case c) {
        FeltCold x = Check.town("r1501t1500s1500o1500m1500f1500a1500");
        c.due("mark(0, 2)", x.mark(0, 2), 0);
    }

    private static void p14_mark_twinsWithAColdCount(Case c) {
        FeltCold x = Check.town("r1501t1500t1500");
        x.cold(1);
        c.due("mark(0, 2)", x.mark(0, 2), 1);
    }

    private static void p14_mark_marriedTwoOrThreeMore(Case c) {
        FeltCold x = Check.town("r1501m1500a1500");
        c.due("mark(0, 3)", x.mark(0, 3), 2);
        c.due("mark(1, 3)", x.mark(1, 3), 2);
        x.love(0, 5);
        x.love(1, -5);
        c.due("mark(0, 3), SHIFTED", x.mark(0, 3), 2);
        c.due("mark(1, 3), SHIFTED", x.mark(1, 3), 2);
        x.soup();
        c.due("mark(0, 3) by SOUP", x.mark(0, 3), 3);
        c.due("mark(1, 3) by SOUP", x.mark(1, 3), 3);
    }

    private static void p14_mark_marriedIfOldNoMoreOrLessIs0(Case c) {
        FeltCold x = Check.town("r1501a1500m1500");
        int[] want = {2, 2, 2, 2, 2, 2, 1, 1, 1, 1, 1, 1, 0, 0, 0, 0, 0, 0, 0, 0, 0, 0, 0, 0, 0};
        for (int h = 0; h < want.length; h++) {
            c.due("mark(0, 3) at HOUR " + h, x.mark(0, 3), want[h]);
            c.due("mark(1, 3) at HOUR " + h, x.mark(1, 3), 2);
            x.hour();
        }
        x.soup();
        c.due("mark(0, 3) at HOUR 25 by SOUP", x.mark(0, 3), 0);
    }

    private static void p14_mark_feverishNobodyAndAllWithACold(Case c) {
        FeltCold x = Check.town("r1501r1501f1500f1500f1500f1500f1500f1500");
        c.due("mark(0, 4) of nobody", x.mark(0, 4), 0);
        for (int i = 0; i < 6; i++) {
            x.cold(i);
            c.due("mark(0, 4) of " + (i + 1), x.mark(0, 4), i + 1);
        }
        x.walk(0, 1);
        c.due("mark(0, 4) alone with his own", x.mark(0, 4), 1);
        c.due("mark(1, 4) without him", x.mark(1, 4), 5);
    }

    private static void p14_mark_oldFrom6To1Hours(Case c) {
        FeltCold x = Check.town("r1501a1500");
        for (int h = 0; h < 40; h++) {
            int left = x.mark(0, 5);
            c.due("mark(0, 5) at HOUR " + h, left, 6 - h % 6);
            x.hour();
        }
    }

    private static void p14_mark_oldFeelsOneLessInJustSoManyHours(Case c) {
        FeltCold x = Check.town("r1501a1500");
        for (int h = 0; h < 4; h++) {
            x.hour();
        }
        x.member(0, 6);
        int felt = x.asked();
        int left = x.mark(0, 5);
        for (int k = 1; k < left; k++) {
            x.hour();
            member(c, x, 0, 6, felt);
        }
        x.hour();
        member(c, x, 0, 6, felt - 1);
    }

    private static void p14_mark_tellsNothing(Case c) {
        c.tellsNothing("mark(1, 1)", Lived::town, x -> x.mark(1, 1));
        c.tellsNothing("mark(2, 2)", Lived::town, x -> x.mark(2, 2));
        c.tellsNothing("mark(3, 3)", Lived::town, x -> x.mark(3, 3));
        c.tellsNothing("mark(4, 4)", Lived::town, x -> x.mark(4, 4));
        c.tellsNothing("mark(5, 5)", Lived::town, x -> x.mark(5, 5));
    }
}
