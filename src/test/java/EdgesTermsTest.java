import java.util.function.ToLongFunction;

/** The sentences under "Terms", edge by edge: refusals, FINDINGS, KINDS, what one FEELS and DOES, HOURS, SPANS. */
public final class EdgesTermsTest {
    private static final int LEAST = Lived.LEAST, GREATEST = Lived.GREATEST;
    private static final int NOTHING = 1, BEYOND = 2, UNLIKE = 3, NOUGHT = 4, SIZE = 5;
    private static final int ALL = GREATEST;

    public static void main(String[] args) throws IllegalAccessException {
        Cases.run(EdgesTermsTest.class);
    }

    // ---- refusals, FINDINGS

    private static void terms_refused_numbersOfTheAnswers(Case c) {
        c.due("BAD", FeltCold.BAD, -1);
        c.due("FULL", FeltCold.FULL, -2);
        c.due("FINDING", FeltCold.FINDING, -3);
        c.due("STATE", FeltCold.STATE, -4);
        c.due("SPENT", FeltCold.SPENT, -6);
        c.due("NONE", FeltCold.NONE, -9);
    }

    private static void terms_refused_badAheadOfState(Case c) {
        c.bad("keep", Lived::without, x -> x.keep(3));
        c.bad("send", Lived::without, x -> x.send(6));
        c.bad("most", Lived::without, x -> x.most(19));
        c.bad("alike", Lived::without, x -> x.alike(31));
        c.bad("fits", Lived::without, x -> x.fits(6));
        c.bad("tickled", Lived::without, x -> x.tickled(6));
        c.bad("spreads", Lived::without, x -> x.spreads(13));
        c.bad("lots", Lived::without, x -> x.lots(21, 1));
    }

    private static void terms_refused_stateAheadOfBadWhereItSaysSo(Case c) {
        c.state("parts", Lived::without, x -> x.parts(-1));
        c.state("soups", Lived::without, x -> x.soups(-1, -1, -1));
    }

    private static void terms_refused_badAheadOfFindings(Case c) {
        c.bad("row", Lived::town, x -> x.row(6, -1));
        c.bad("text", Lived::town, x -> x.text(4, -1));
        c.bad("copy", Lived::town, x -> x.copy(6, 0, 0, 0, -1));
        c.bad("mark", Lived::town, x -> x.mark(0, 6));
        c.bad("shifts", Lived::town, x -> x.shifts(6, 4));
        c.bad("kinds", Lived::town, x -> x.kinds(6, 4));
    }

    private static void terms_refused_stateAheadOfFindings(Case c) {
        c.state("fits of a missing ROW", Lived::without, x -> x.fits(4));
        c.state("tickled of a missing ROW", Lived::without, x -> x.tickled(4));
    }

    private static void terms_refused_findingAheadOfStateWhereItSaysSo(Case c) {
        c.found("town of a missing TEXT", Lived::without, x -> x.town(3), NOTHING);
    }

    private static void terms_refused_stateAheadOfFullWhereItSaysSo(Case c) {
        c.state("walk", Lived::full, x -> x.walk(0, 0));
        c.state("cold", Lived::full, x -> x.cold(0));
        c.state("love", Lived::full, x -> x.love(0, 0));
        c.state("fire", Lived::full, x -> x.fire(0, 12));
    }

    private static void terms_refused_noCallOfANewObjectIsFull(Case c) {
        c.state("hour", FeltCold::new, x -> x.hour());
        c.state("soup", FeltCold::new, x -> x.soup());
        c.state("lots", FeltCold::new, x -> x.lots(20, 1));
        c.bad("walk", FeltCold::new, x -> x.walk(0, 0));
    }

    private static void finds(Case c, String call, ToLongFunction<FeltCold> asked, int which) {
        c.found(call, Lived::town, asked, which);
    }

    private static void terms_findings_nothing(Case c) {
        finds(c, "a ROW", x -> x.at(4, 0), NOTHING);
        finds(c, "a TEXT", x -> x.put(3, 0, 1), NOTHING);
        finds(c, "a kept TOWN", x -> x.on(1), NOTHING);
    }

    private static void terms_findings_beyond(Case c) {
        finds(c, "a place of a ROW", x -> x.at(0, 4), BEYOND);
        finds(c, "a byte of a TEXT", x -> x.put(1, 5, 1), BEYOND);
        finds(c, "places of a ROW", x -> x.copy(0, 1, 1, 0, 4), BEYOND);
    }

    private static void terms_findings_unlike(Case c) {
        finds(c, "a MEMBER of another KIND", x -> x.mark(0, 5), UNLIKE);
        finds(c, "a number that is none", x -> x.fits(1), UNLIKE);
    }

    private static void terms_findings_nought(Case c) {
        finds(c, "shared among none", x -> x.mean(2), NOUGHT);
    }

    private static void terms_findings_size(Case c) {
        finds(c, "fewer than none", x -> x.row(0, -1), SIZE);
        finds(c, "not as many as due", x -> x.fits(3), SIZE);
    }

    private static void terms_chances_inLowestTermsAnd0By1(Case c) {
        FeltCold x = Check.town("r1531o0000o0000");
        c.chance("100 by 144", x, x.odds(0, 2), 25, 36);
        c.chance("144 by 144", x, x.odds(0, 0), 1, 1);
        c.chance("0 by 144", x, x.odds(0, 12), 0, 1);
        c.chance("31 times 36 by 144", x, x.mid(0, 6), 31, 4);
    }

    private static void terms_sets_bitsOfDegreesFrom0To30(Case c) {
        FeltCold x = Check.town("r0031r3031o3001s0000");
        c.told("span(0)", x, x.span(0), 1, 1);
        c.told("span(1)", x, x.span(1), 1 << 30, 1);
        c.due("alike(15)", x.alike(15), ALL & ~1 & ~(1 << 30));
    }

    private static void terms_sets_bitsOfMembersAndRooms(Case c) {
        FeltCold x = Check.town("r1531r1531r1531r1531o1500o1500o1500o1500o1500o1503");
        c.due("room(3, 2)", x.room(3, 2), 32);
        c.due("room(0, 2)", x.room(0, 2), 31);
        c.due("known()", x.known(), 15);
    }

    // ---- KINDS, what one FEELS

    private static void feels(Case c, FeltCold x, int i, int want) {
        c.told("member(" + i + ", 6)", x, x.member(i, 6), 1, want);
    }

    private static void terms_kinds_lettersAndNumbers(Case c) {
        int[] letters = {111, 115, 116, 109, 102, 97};
        for (int kind = 0; kind < 6; kind++) {
            FeltCold x = new FeltCold();
            Check.write(x, 0, "r1531o1500");
            x.put(0, 5, letters[kind]);
            c.due("town by letter " + letters[kind], x.town(0), 1);
            c.told("member(0, 0)", x, x.member(0, 0), 1, kind);
        }
    }

    private static void terms_feels_markAndShift(Case c) {
        FeltCold x = Check.town("r1531o1500s1500t1550f1500");
        for (int i = 0; i < 4; i++) {
            feels(c, x, i, 15);
            x.love(i, -5);
            feels(c, x, i, 10);
            x.love(i, 5);
            feels(c, x, i, 20);
        }
    }

    private static void terms_feels_oneMoreJustWhileThereIsSoup(Case c) {
        FeltCold x = Check.town("r1531o1500s1500t1500m1500f1500a1500");
        int[] base = {15, 15, 15, 17, 15, 17};
        x.soup();
        for (int h = 0; h < 5; h++) {
            for (int i = 0; i < 6; i++) {
                feels(c, x, i, base[i] + (h < 3 ? 1 : 0));
            }
            x.hour();
        }
    }

    private static void terms_feels_twoMoreIfMarriedOrOld(Case c) {
        FeltCold x = Check.town("r1531m0000a3000");
        feels(c, x, 0, 2);
        feels(c, x, 1, 32);
    }

    private static void terms_feels_oldOneLessForEach6HoursCut(Case c) {
        FeltCold x = Check.town("r1531a1500");
        int[] want = {17, 17, 17, 17, 17, 17, 16, 16, 16, 16, 16, 16, 15, 15};
        for (int h = 0; h < want.length; h++) {
            feels(c, x, 0, want[h]);
            x.hour();
        }
    }

    private static void terms_feels_soupMarriageShiftAndDriftTogether(Case c) {
        FeltCold x = Check.town("r1531a1500");
        for (int h = 0; h < 12; h++) {
            x.hour();
        }
        x.love(0, -3);
        x.soup();
        feels(c, x, 0, 15 - 3 + 2 - 2 + 1);
    }

    private static void terms_feels_below0AndAbove30(Case c) {
        FeltCold x = Check.town("r1531s0000f3000");
        x.love(0, -5);
        x.love(1, 5);
        feels(c, x, 0, -5);
        feels(c, x, 1, 35);
    }

    // ---- when one DOES it

    /** The DEGREES at which MEMBER 0 does it, by heating his ROOM. */
    private static int doing(FeltCold x) {
        int deeds = x.count(3);
        int set = 0;
        for (int degree = 0; degree <= 30; degree++) {
            x.fire(0, degree);
            x.member(0, 7);
            set |= x.asked() << degree;
            x.undo(deeds);
        }
        return set;
    }

    private static void does(Case c, String member, int shift, int want) {
        FeltCold x = Check.town("r1531" + member);
        x.love(0, shift);
        c.due(member + " SHIFTED by " + shift, doing(x), want);
    }

    private static void terms_does_oneAtWhatHeFeelsOrMore(Case c) {
        does(c, "o1590", 0, Check.range(15, 30));
        does(c, "o0000", 0, ALL);
        does(c, "o0000", 1, Check.range(1, 30));
        does(c, "o3000", 0, 1 << 30);
        does(c, "o3000", 1, 0);
        does(c, "o3000", 5, 0);
        does(c, "o0000", -5, ALL);
    }

    private static void terms_does_marriedAndOldAtWhatTheyFeelOrMore(Case c) {
        does(c, "m1590", 0, Check.range(17, 30));
        does(c, "a1590", 0, Check.range(17, 30));
        does(c, "m0000", -2, ALL);
        does(c, "a3000", -2, 1 << 30);
        does(c, "a3000", -1, 0);
    }

    private static void terms_does_sneezerAtThatOrLess(Case c) {
        does(c, "s1590", 0, Check.range(0, 15));
        does(c, "s0000", 0, 1);
        does(c, "s0000", -1, 0);
        does(c, "s3000", 0, ALL);
        does(c, "s3000", -1, Check.range(0, 29));
        does(c, "s3000", 5, ALL);
    }

    private static void terms_does_feverishJustIfASneezerWouldNot(Case c) {
        does(c, "f1590", 0, Check.range(16, 30));
        does(c, "f0000", 0, Check.range(1, 30));
        does(c, "f0000", -1, ALL);
        does(c, "f3000", 0, 0);
        does(c, "f3000", -1, 1 << 30);
        does(c, "f3000", 5, 0);
    }

    private static void terms_does_twinFromThatOnToTheWidthAbove(Case c) {
        does(c, "t1500", 0, 1 << 15);
        does(c, "t1510", 0, Check.range(15, 16));
        does(c, "t1590", 0, Check.range(15, 24));
        does(c, "t0090", 0, Check.range(0, 9));
        does(c, "t3090", 0, 1 << 30);
        does(c, "t2190", 0, Check.range(21, 30));
        does(c, "t2290", 0, Check.range(22, 30));
    }

    private static void terms_does_twinPartlyBelow0OrAbove30(Case c) {
        does(c, "t0050", -5, 1);
        does(c, "t0040", -5, 0);
        does(c, "t0090", -5, Check.range(0, 4));
        does(c, "t3000", 1, 0);
        does(c, "t2990", 1, 1 << 30);
    }

    private static void terms_does_widthIsForTwinsAlone(Case c) {
        for (char letter : "osmfa".toCharArray()) {
            FeltCold narrow = Check.town("r1531" + letter + "1500");
            FeltCold wide = Check.town("r1531" + letter + "1590");
            c.due("WIDTH of " + letter, doing(wide), doing(narrow));
        }
    }

    private static void terms_does_neverWithACold(Case c) {
        for (char letter : "ostmfa".toCharArray()) {
            FeltCold x = Check.town("r1531" + letter + "1590");
            x.cold(0);
            c.due(letter + " of 2 HOURS", doing(x), 0);
            x.hour();
            c.due(letter + " of 1 HOUR", doing(x), 0);
            x.hour();
            c.due(letter + " when it is over", doing(x) == 0 ? 1 : 0, 0);
        }
    }

    // ---- HOURS, DEEDS

    private static void terms_hour_0AtFirstNobodyHasAColdNoSoup(Case c) {
        FeltCold x = Check.town(Lived.TEXT);
        c.due("count(2)", x.count(2), 0);
        c.due("count(5)", x.count(5), 0);
        c.due("spreads(0)", x.spreads(0), 0);
    }

    private static void terms_hour_coldOf2HoursFromNowOn(Case c) {
        FeltCold x = Check.town("r1531o1500o1500o1500");
        x.cold(0);
        c.due("hour()", x.hour(), 6);
        int[] hours = {1, 2, 2};
        for (int i = 0; i < 3; i++) {
            c.told("member(" + i + ", 4)", x, x.member(i, 4), 1, hours[i]);
        }
    }

    private static void terms_hour_eachRoomByItself(Case c) {
        FeltCold x = Check.town("r1531r1531r1531r1531o1500o1500o1501o1501o1502o1503");
        x.cold(0);
        x.cold(3);
        c.due("hour()", x.hour(), 2 + 4);
    }

    private static void terms_deeds_eachKindIsOne(Case c) {
        FeltCold x = Check.town("r1531r1531o1500");
        x.walk(0, 1);
        c.due("count(3) behind walk", x.count(3), 1);
        x.hour();
        c.due("count(3) behind hour", x.count(3), 2);
        x.soup();
        c.due("count(3) behind soup", x.count(3), 3);
        x.cold(0);
        c.due("count(3) behind cold", x.count(3), 4);
        x.love(0, 1);
        c.due("count(3) behind love", x.count(3), 5);
        x.fire(0, 1);
        c.due("count(3) behind fire", x.count(3), 6);
        x.lots(3, 1);
        c.due("count(3) behind lots", x.count(3), 9);
        x.keep(0);
        x.known();
        c.due("count(3) behind others", x.count(3), 9);
    }

    private static void terms_deeds_40AtMostOfAllKinds(Case c) {
        FeltCold x = Check.town("r1531r1531o1500");
        for (int k = 0; k < 10; k++) {
            x.walk(0, 1 - k % 2);
            x.soup();
            x.love(0, 1 + k % 2);
            x.fire(0, k % 2);
        }
        c.due("count(3)", x.count(3), 40);
        c.due("walk", x.walk(0, 1), FeltCold.FULL);
        c.due("hour", x.hour(), FeltCold.FULL);
        c.due("soup", x.soup(), FeltCold.FULL);
        c.due("cold", x.cold(0), FeltCold.FULL);
        c.due("love", x.love(0, 5), FeltCold.FULL);
        c.due("fire", x.fire(0, 9), FeltCold.FULL);
        c.due("lots", x.lots(1, 1), FeltCold.FULL);
        c.due("count(3) then", x.count(3), 40);
    }

    private static void terms_deeds_refusedOnesAreNone(Case c) {
        FeltCold x = Check.town("r1531r1531o1500");
        x.walk(0, 0);
        x.love(0, 0);
        x.fire(0, 15);
        x.walk(0, 2);
        c.due("count(3)", x.count(3), 0);
    }

    // ---- SPANS, KNOWN ROOMS

    private static void terms_span_whoDoesItAndWhoDoesNot(Case c) {
        FeltCold x = Check.town("r1531o1000o2000");
        c.told("span(0)", x, x.span(0), Check.range(10, 19), 10);
    }

    private static void terms_span_everyDegreeOfItHasTheSameSpan(Case c) {
        FeltCold x = Check.town("r0031o1000s2000t1230m2200f0500a0800");
        for (int degree = 0; degree <= 30; degree++) {
            x.fire(0, degree);
            int span = x.span(0);
            int doers = x.count(6);
            x.undo(0);
            int other = Integer.numberOfTrailingZeros(span);
            x.fire(0, other);
            c.due("span at the first DEGREE of it", x.span(0), span);
            c.due("who does it at the first DEGREE of it", x.count(6), doers);
            x.undo(0);
        }
    }

    private static void terms_known_noMoreDegreesThanNeed(Case c) {
        for (int need = 9; need <= 11; need++) {
            FeltCold x = Check.town("r15" + (need < 10 ? "0" : "") + need + "o1000o2000");
            c.due("known() of 10 by NEED " + need, x.known(), need >= 10 ? 1 : 0);
        }
    }

    // ---- all calls, with numbers far off

    private static void terms_calls_neverThrowByNumbersFarOff(Case c) throws ReflectiveOperationException {
        int[] far = {LEAST, LEAST + 1, -7, -1, 0, 1, 6, 31, 40, 41, 60, 61, 64, GREATEST - 1, GREATEST};
        for (java.lang.reflect.Method m : FeltCold.class.getDeclaredMethods()) {
            if (java.lang.reflect.Modifier.isPublic(m.getModifiers())) {
                int n = m.getParameterCount();
                int values = n > 3 ? 5 : far.length;
                int all = (int) Math.round(Math.pow(values, n));
                FeltCold x = Lived.town();
                for (int k = 0; k < all; k++) {
                    x = k % 300 == 0 ? k % 600 == 0 ? Lived.town() : Lived.without() : x;
                    Object[] given = new Object[n];
                    for (int rest = k, i = 0; i < n; i++, rest /= values) {
                        given[i] = far[n > 3 ? 3 * (rest % values) + 1 : rest % values];
                    }
                    m.invoke(x, given);
                }
                c.due(m.getName() + " is answered " + all + " times", 1, 1);
            }
        }
    }
}
