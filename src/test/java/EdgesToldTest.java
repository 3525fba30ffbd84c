import java.math.BigInteger;
import java.util.function.ToLongFunction;

/** Promises 39 to 48, edge by edge: chances, lots, what is told. */
public final class EdgesToldTest {
    private static final int LEAST = Lived.LEAST, GREATEST = Lived.GREATEST;
    private static final long MODULUS = 2147483647L;

    public static void main(String[] args) throws IllegalAccessException {
        Cases.run(EdgesToldTest.class);
    }

    // ---- 39 odds

    private static void p39_odds_nobodyThereIsSure(Case c) {
        FeltCold x = Check.town("r1531r1531o1500");
        for (int p : new int[] {0, 6, 12}) {
            c.chance("odds(1, " + p + ")", x, x.odds(1, p), 1, 1);
        }
    }

    private static void p39_odds_p0IsSure(Case c) {
        FeltCold x = Check.town("r1531o1000s2000t1020m1500f1400a0000");
        c.chance("odds(0, 0)", x, x.odds(0, 0), 1, 1);
    }

    private static void p39_odds_p12TurnsAllRound(Case c) {
        FeltCold x = Check.town("r1531o1000o2000");
        c.chance("odds(0, 12) that cannot be", x, x.odds(0, 12), 0, 1);
        FeltCold y = Check.town("r1531o1000o1200");
        c.chance("odds(0, 12) that can", y, y.odds(0, 12), 1, 1);
    }

    private static void p39_odds_p1AndP11(Case c) {
        // Of one who always does it, just what is not false can be.
        FeltCold x = Check.town("r1531o0000");
        c.chance("odds(0, 1)", x, x.odds(0, 1), 11, 12);
        c.chance("odds(0, 11)", x, x.odds(0, 11), 1, 12);
    }

    private static void p39_odds_inLowestTerms(Case c) {
        FeltCold x = Check.town("r1531o0000");
        long[][] want = {{1, 1}, {11, 12}, {5, 6}, {3, 4}, {2, 3}, {7, 12}, {1, 2}, {5, 12}, {1, 3}, {1, 4}, {1, 6},
            {1, 12}, {0, 1}};
        for (int p = 0; p <= 12; p++) {
            c.chance("odds(0, " + p + ")", x, x.odds(0, p), want[p][0], want[p][1]);
        }
    }

    private static void p39_odds_allSixWithGreatestLowerNumber(Case c) {
        FeltCold x = Check.town("r1531o0000o0000o0000o0000o0000o0000");
        c.chance("odds(0, 1)", x, x.odds(0, 1), 1771561, 2985984);
        c.chance("odds(0, 11)", x, x.odds(0, 11), 1, 2985984);
        c.chance("odds(0, 12)", x, x.odds(0, 12), 0, 1);
    }

    private static void p39_odds_whoHasAColdSeemsFalselyToo(Case c) {
        FeltCold x = Check.town("r1531o1500");
        c.chance("odds(0, 5)", x, x.odds(0, 5), 1, 1);
        x.cold(0);
        c.chance("odds(0, 5) with a COLD", x, x.odds(0, 5), 7, 12);
        c.chance("odds(0, 12) with a COLD", x, x.odds(0, 12), 0, 1);
    }

    private static void p39_odds_thoseOfOtherRoomsDoNotCount(Case c) {
        FeltCold x = Check.town("r1531r1531o0000o0001");
        c.chance("odds(0, 6)", x, x.odds(0, 6), 1, 2);
        x.walk(1, 0);
        c.chance("odds(0, 6) of two", x, x.odds(0, 6), 1, 4);
    }

    private static void p39_odds_numbersBeyondAreBad(Case c) {
        c.bad("odds(-1, 0)", Lived::town, x -> x.odds(-1, 0));
        c.bad("odds(3, 0)", Lived::town, x -> x.odds(3, 0));
        c.bad("odds(0, -1)", Lived::town, x -> x.odds(0, -1));
        c.bad("odds(0, 13)", Lived::town, x -> x.odds(0, 13));
        c.bad("odds(least, 0)", Lived::town, x -> x.odds(LEAST, 0));
        c.bad("odds(0, greatest)", Lived::town, x -> x.odds(0, GREATEST));
        c.bad("odds(0, 0) of none", Lived::without, x -> x.odds(0, 0));
    }

    private static void p39_odds_changesNothing(Case c) {
        c.changesNothing("odds(0, 7)", Lived::town, x -> x.odds(0, 7));
    }

    private static void p39_odds_doesNotTellByAsked(Case c) {
        FeltCold x = Lived.town();
        int asked = x.asked();
        x.odds(0, 7);
        c.due("asked()", x.asked(), asked);
    }

    // ---- 40 mid

    private static void p40_mid_nobodyThereIs31(Case c) {
        FeltCold x = Check.town("r1531r1531o1500");
        for (int p : new int[] {0, 6, 12}) {
            c.chance("mid(1, " + p + ")", x, x.mid(1, p), 31, 1);
        }
    }

    private static void p40_mid_p0IsTheSpan(Case c) {
        FeltCold x = Check.town("r1531o1000s2000t1390m1500f1400");
        x.span(0);
        c.chance("mid(0, 0)", x, x.mid(0, 0), 2, 1);
        c.due("span(0) then asked()", x.asked(), 2);
    }

    private static void p40_mid_p12TurnsAllRound(Case c) {
        FeltCold x = Check.town("r1531o1000o1200");
        c.chance("mid(0, 12)", x, x.mid(0, 12), 10, 1);
        FeltCold y = Check.town("r1531o1000o2000");
        c.chance("mid(0, 12) that cannot be", y, y.mid(0, 12), 0, 1);
    }

    private static void p40_mid_inLowestTerms(Case c) {
        // One who does it at 21 of 31: (12 - p) times 21 and p times 10, by 12.
        FeltCold x = Check.town("r1531o1000");
        for (int p = 0; p <= 12; p++) {
            long sum = 21L * (12 - p) + 10L * p;
            long common = BigInteger.valueOf(sum).gcd(BigInteger.valueOf(12)).longValue();
            c.chance("mid(0, " + p + ")", x, x.mid(0, p), sum / common, 12 / common);
        }
    }

    private static void p40_mid_greatestNumbers(Case c) {
        FeltCold x = Check.town("r1531o0000o0000o0000o0000o0000o0000");
        c.chance("mid(0, 1)", x, x.mid(0, 1), 31 * 1771561L, 2985984);
        c.chance("mid(0, 11)", x, x.mid(0, 11), 31, 2985984);
    }

    private static void p40_mid_whoHasAColdSeemsFalselyToo(Case c) {
        FeltCold x = Check.town("r1531o1500");
        x.cold(0);
        c.chance("mid(0, 6)", x, x.mid(0, 6), 31, 2);
        c.chance("mid(0, 12)", x, x.mid(0, 12), 0, 1);
    }

    private static void p40_mid_numbersBeyondAreBad(Case c) {
        c.bad("mid(-1, 0)", Lived::town, x -> x.mid(-1, 0));
        c.bad("mid(3, 0)", Lived::town, x -> x.mid(3, 0));
        c.bad("mid(0, -1)", Lived::town, x -> x.mid(0, -1));
        c.bad("mid(0, 13)", Lived::town, x -> x.mid(0, 13));
        c.bad("mid(greatest, 0)", Lived::town, x -> x.mid(GREATEST, 0));
        c.bad("mid(0, least)", Lived::town, x -> x.mid(0, LEAST));
        c.bad("mid(0, 0) of none", Lived::without, x -> x.mid(0, 0));
    }

    private static void p40_mid_changesNothing(Case c) {
        c.changesNothing("mid(0, 7)", Lived::town, x -> x.mid(0, 7));
    }

    private static void p40_mid_doesNotTellByAsked(Case c) {
        FeltCold x = Lived.town();
        int asked = x.asked();
        x.mid(0, 7);
        c.due("asked()", x.asked(), asked);
    }

    // ---- 41 lots

    /** The seed by which the first number is this one. */
    private static int seedFor(long number) {
        BigInteger modulus = BigInteger.valueOf(MODULUS);
        BigInteger back = BigInteger.valueOf(48271).modInverse(modulus);
        return back.multiply(BigInteger.valueOf(number)).mod(modulus).intValue();
    }

    private static void p41_lots_oneAnd20AreTaken(Case c) {
        FeltCold x = Check.town("r1531r1531o1500");
        c.due("lots(1, 1)", x.lots(1, 1) >= 0 ? 1 : 0, 1);
        c.due("count(3)", x.count(3), 1);
        c.due("lots(20, 1)", x.lots(20, 1) >= 0 ? 1 : 0, 1);
        c.due("count(3)", x.count(3), 21);
    }

    private static void p41_lots_numbersBeyondAreBad(Case c) {
        c.bad("lots(0, 1)", Lived::town, x -> x.lots(0, 1));
        c.bad("lots(-1, 1)", Lived::town, x -> x.lots(-1, 1));
        c.bad("lots(21, 1)", Lived::town, x -> x.lots(21, 1));
        c.bad("lots(least, 1)", Lived::town, x -> x.lots(LEAST, 1));
        c.bad("lots(greatest, 1)", Lived::town, x -> x.lots(GREATEST, 1));
    }

    private static void p41_lots_seeds1And2147483646AreTaken(Case c) {
        // 48271 modulo 4 is 3, by 8 it is 6033: of two MEMBERS the last one catches a COLD.
        FeltCold x = Check.town("r1531r1531o1500o1500");
        c.due("lots(1, 1)", x.lots(1, 1), 0);
        c.told("member(1, 4)", x, x.member(1, 4), 1, 2);
        // 2147483646 is -1: the number is 2147483647 - 48271 = 2147435376, modulo 4 it is 0.
        FeltCold y = Check.town("r1531r1531o1500o1500");
        c.due("lots(1, 2147483646)", y.lots(1, 2147483646), 0);
        c.due("count(2)", y.count(2), 1);
    }

    private static void p41_lots_seedsBeyondAreBad(Case c) {
        c.bad("lots(1, 0)", Lived::town, x -> x.lots(1, 0));
        c.bad("lots(1, -1)", Lived::town, x -> x.lots(1, -1));
        c.bad("lots(1, 2147483647)", Lived::town, x -> x.lots(1, GREATEST));
        c.bad("lots(1, least)", Lived::town, x -> x.lots(1, LEAST));
    }

    private static void p41_lots_numbersDoNotWrapAround(Case c) {
        // 44488 times 48271 is below the modulus yet, 44489 times it is beyond an int.
        for (int seed : new int[] {44488, 44489, 1000000007, 2147483645, 2147483646}) {
            long number = BigInteger.valueOf(seed).multiply(BigInteger.valueOf(48271))
                .mod(BigInteger.valueOf(MODULUS)).longValue();
            FeltCold x = Check.town("r1531r1531o1500o1500o1500");
            x.lots(1, seed);
            int who = (int) (number / 8 % 3);
            x.member(who, 3);
            int walked = x.asked();
            x.member(who, 4);
            int cold = x.asked();
            c.due("seed " + seed + ", HOUR", x.count(2), number % 4 < 2 ? 1 : 0);
            c.due("seed " + seed + ", walked", walked, number % 4 == 2 ? 1 : 0);
            c.due("seed " + seed + ", COLD", cold, number % 4 == 3 ? 2 : 0);
        }
    }

    private static void p41_lots_eachNumberModulo4(Case c) {
        for (int rest = 0; rest < 4; rest++) {
            FeltCold x = Check.town("r1531r1531o1500o1500");
            // By 8, cut: 3, so it is MEMBER 1.
            c.due("lots, " + rest, x.lots(1, seedFor(24 + rest)), rest == 2 ? 1 : 0);
            c.due("count(2), " + rest, x.count(2), rest < 2 ? 1 : 0);
            c.told("member(1, 3), " + rest, x, x.member(1, 3), 1, rest == 2 ? 1 : 0);
            c.told("member(1, 4), " + rest, x, x.member(1, 4), 1, rest == 3 ? 2 : 0);
            c.told("member(0, 3), " + rest, x, x.member(0, 3), 1, 0);
            c.told("member(0, 4), " + rest, x, x.member(0, 4), 1, 0);
        }
    }

    private static void p41_lots_memberIsBy8CutModuloHowMany(Case c) {
        for (int members = 1; members <= 6; members++) {
            for (int number : new int[] {3, 7, 8 + 3, 8 + 7, 40 + 7, 48 + 3, 56 + 3}) {
                FeltCold x = Check.town("r1531" + "o1500".repeat(members));
                x.lots(1, seedFor(number));
                c.told("COLD of " + number / 8 % members + " of " + members, x,
                    x.member(number / 8 % members, 4), 1, 2);
            }
        }
    }

    private static void p41_lots_walkFromTheLastRoomToTheFirst(Case c) {
        FeltCold x = Check.town("r1531r1531r1531r1531o1503");
        c.due("lots", x.lots(1, seedFor(2)), 3);
        c.told("member(0, 3)", x, x.member(0, 3), 1, 0);
        c.due("lots on", x.lots(1, seedFor(2)), 4);
        c.told("member(0, 3)", x, x.member(0, 3), 1, 1);
        c.due("count(4)", x.count(4), 4);
    }

    private static void p41_lots_walkInOneRoomIsADeedOf0Steps(Case c) {
        FeltCold x = Check.town("r1531o1500");
        c.due("lots", x.lots(1, seedFor(2)), 0);
        c.due("count(3)", x.count(3), 1);
        c.due("count(2)", x.count(2), 0);
        c.told("member(0, 3)", x, x.member(0, 3), 1, 0);
        c.due("undo(0)", x.undo(0), 1);
    }

    private static void p41_lots_coldAnewIs2HoursAgain(Case c) {
        FeltCold x = Check.town("r1531o1500");
        x.cold(0);
        x.hour();
        c.told("member(0, 4)", x, x.member(0, 4), 1, 1);
        x.lots(1, seedFor(3));
        c.told("member(0, 4) anew", x, x.member(0, 4), 1, 2);
        c.due("count(3)", x.count(3), 3);
        x.undo(2);
        c.told("member(0, 4) undone", x, x.member(0, 4), 1, 1);
    }

    private static void p41_lots_hourPassesColdsAndSoup(Case c) {
        FeltCold x = Check.town("r1531o1500o1500");
        x.cold(0);
        x.soup();
        x.lots(1, seedFor(1));
        c.told("member(0, 4)", x, x.member(0, 4), 1, 1);
        c.told("member(1, 4)", x, x.member(1, 4), 1, 2);
        c.due("count(5)", x.count(5), 2);
    }

    private static void p41_lots_answersAllStepsNotThoseOfTheLots(Case c) {
        FeltCold x = Check.town("r1531r1531r1531o1500");
        x.walk(0, 2);
        x.walk(0, 0);
        c.due("lots", x.lots(1, seedFor(2)), 5);
    }

    private static void p41_lots_upTo40DeedsAreTaken(Case c) {
        FeltCold x = Check.town("r1531r1531o1500");
        for (int k = 0; k < 20; k++) {
            x.soup();
        }
        c.due("lots(20, 9) with 20", x.lots(20, 9) >= 0 ? 1 : 0, 1);
        c.due("count(3)", x.count(3), 40);
        FeltCold y = Lived.almostFull();
        c.due("lots(1, 9) with 39", y.lots(1, 9) >= 0 ? 1 : 0, 1);
        c.due("count(3)", y.count(3), 40);
    }

    private static void p41_lots_moreThan40IsFull(Case c) {
        c.full("lots(1, 9) with 40", Lived::full, x -> x.lots(1, 9));
        c.full("lots(2, 9) with 39", Lived::almostFull, x -> x.lots(2, 9));
        c.full("lots(20, 9) with 21", () -> {
            FeltCold x = Check.town("r1531r1531o1500");
            for (int k = 0; k < 21; k++) {
                x.soup();
            }
            return x;
        }, x -> x.lots(20, 9));
    }

    private static void p41_lots_noMembersIsState(Case c) {
        c.state("lots(1, 1)", Lived::without, x -> x.lots(1, 1));
        c.state("lots(20, 1) of a new object", FeltCold::new, x -> x.lots(20, 1));
    }

    private static void p41_lots_badAheadOfStateAndFull(Case c) {
        c.bad("lots(0, 1)", Lived::without, x -> x.lots(0, 1));
        c.bad("lots(1, 0)", Lived::without, x -> x.lots(1, 0));
        c.bad("lots(21, 1)", Lived::full, x -> x.lots(21, 1));
        c.bad("lots(1, 0)", Lived::full, x -> x.lots(1, 0));
    }

    private static void p41_lots_tellsNothing(Case c) {
        c.tellsNothing("lots(5, 5)", Lived::town, x -> x.lots(5, 5));
    }

    // ---- 42 asked

    private static void p42_asked_0Before(Case c) {
        c.due("asked()", new FeltCold().asked(), 0);
        c.due("asked() with a TOWN", Check.town(Lived.TEXT).asked(), 0);
    }

    private static void told(Case c, String call, ToLongFunction<FeltCold> asked, int want) {
        FeltCold x = Lived.town();
        asked.applyAsLong(x);
        c.due(call + " then asked()", x.asked(), want);
        c.due(call + " then asked() again", x.asked(), want);
    }

    private static void p42_asked_eachCallThatTells(Case c) {
        told(c, "lay", x -> x.lay(0, 1, 9), 1);
        told(c, "at", x -> x.at(1, 0), 12);
        told(c, "mean", x -> x.mean(1), 4);
        told(c, "member", x -> x.member(5, 6), 21);
        told(c, "span", x -> x.span(2), 31);
        told(c, "box", x -> x.box(2, 0), 31);
        told(c, "most", x -> x.most(0), 0);
        told(c, "parts", x -> x.parts(0), 31);
        told(c, "fewest", x -> x.fewest(), 40);
        told(c, "fits", x -> x.fits(2), 31);
        told(c, "spreads", x -> x.spreads(0), 23);
        told(c, "soups", x -> x.soups(0, 0, 1), 0);
    }

    private static void p42_asked_refusedOnesTellNothing(Case c) {
        c.bad("member", Lived::town, x -> x.member(6, 0));
        c.bad("span", Lived::town, x -> x.span(3));
        c.bad("box", Lived::town, x -> x.box(0, 7));
        c.bad("most", Lived::town, x -> x.most(19));
        c.bad("parts", Lived::town, x -> x.parts(64));
        c.bad("spreads", Lived::town, x -> x.spreads(13));
        c.bad("soups", Lived::town, x -> x.soups(0, 9, 0));
        c.found("lay", Lived::town, x -> x.lay(0, 4, 0), 2);
        c.found("at", Lived::town, x -> x.at(0, 4), 2);
        c.found("mean", Lived::town, x -> x.mean(2), 4);
        c.found("fits", Lived::town, x -> x.fits(3), 5);
    }

    private static void p42_asked_noneTellsNothing(Case c) {
        c.none("box", () -> told(Check.town("r1531o1500")), x -> x.box(0, 2));
        c.none("soups", () -> told(Check.town("r1531o2000")), x -> x.soups(0, 1, 1));
    }

    private static FeltCold told(FeltCold x) {
        x.member(0, 6);
        return x;
    }

    private static void p42_asked_changesNothing(Case c) {
        c.changesNothing("asked()", Lived::town, x -> x.asked());
        c.tellsNothing("asked()", Lived::town, x -> x.asked());
    }

    // ---- 43, 44 upper, lower

    private static void p43_upper_0Before(Case c) {
        c.due("upper()", new FeltCold().upper(), 0);
        c.due("upper() with a TOWN", Check.town(Lived.TEXT).upper(), 0);
    }

    private static void p43_upper_latestOfBoth(Case c) {
        FeltCold x = Check.town("r1531o1000");
        x.odds(0, 3);
        c.due("upper() of odds", x.upper(), 1);
        x.mid(0, 6);
        c.due("upper() of mid", x.upper(), 31);
        x.odds(0, 3);
        c.due("upper() of odds again", x.upper(), 1);
    }

    private static void p43_upper_refusedLeavesIt(Case c) {
        c.bad("odds(0, 13)", Lived::town, x -> x.odds(0, 13));
        c.bad("mid(0, 13)", Lived::town, x -> x.mid(0, 13));
    }

    private static void p43_upper_greatestNumber(Case c) {
        FeltCold x = Check.town("r1531o0000o0000o0000o0000o0000o0000");
        x.mid(0, 1);
        c.due("upper()", x.upper(), 54918391L);
    }

    private static void p43_upper_0By1(Case c) {
        FeltCold x = Check.town("r1531o0000");
        x.odds(0, 5);
        x.odds(0, 12);
        c.due("upper()", x.upper(), 0);
        c.due("lower()", x.lower(), 1);
    }

    private static void p43_upper_changesNothing(Case c) {
        c.changesNothing("upper()", Lived::town, x -> x.upper());
        c.tellsNothing("upper()", Lived::town, x -> x.upper());
    }

    private static void p44_lower_1Before(Case c) {
        c.due("lower()", new FeltCold().lower(), 1);
        c.due("lower() with a TOWN", Check.town(Lived.TEXT).lower(), 1);
    }

    private static void p44_lower_latestOfBoth(Case c) {
        FeltCold x = Check.town("r1531o0000");
        x.odds(0, 3);
        c.due("lower() of odds", x.lower(), 4);
        x.mid(0, 6);
        c.due("lower() of mid", x.lower(), 2);
        x.odds(0, 0);
        c.due("lower() of odds again", x.lower(), 1);
    }

    private static void p44_lower_greatestNumber(Case c) {
        FeltCold x = Check.town("r1531o0000o0000o0000o0000o0000o0000");
        x.odds(0, 1);
        c.due("lower()", x.lower(), 2985984);
    }

    private static void p44_lower_alwaysAbove0(Case c) {
        FeltCold x = Check.town("r1531r1531o0000o3000s1500");
        for (int r = 0; r < 2; r++) {
            for (int p = 0; p <= 12; p++) {
                x.odds(r, p);
                c.due("odds(" + r + ", " + p + ") then lower()", x.lower() > 0 ? 1 : 0, 1);
                x.mid(r, p);
                c.due("mid(" + r + ", " + p + ") then lower()", x.lower() > 0 ? 1 : 0, 1);
            }
        }
    }

    private static void p44_lower_changesNothing(Case c) {
        c.changesNothing("lower()", Lived::town, x -> x.lower());
        c.tellsNothing("lower()", Lived::town, x -> x.lower());
    }

    // ---- 45 count

    private static void p45_count_whatBeyondIsBad(Case c) {
        c.bad("count(-1)", Lived::town, x -> x.count(-1));
        c.bad("count(11)", Lived::town, x -> x.count(11));
        c.bad("count(least)", Lived::town, x -> x.count(LEAST));
        c.bad("count(greatest)", Lived::town, x -> x.count(GREATEST));
        c.bad("count(11) of none", Lived::without, x -> x.count(11));
    }

    private static void p45_count_firstAndLastAreTaken(Case c) {
        FeltCold x = Lived.town();
        c.due("count(0)", x.count(0), 6);
        c.due("count(10)", x.count(10), 2);
    }

    private static void p45_count_everythingFull(Case c) {
        FeltCold x = Check.town("r1531r1531r1531r1531s2000s2000s2000f0000f0000f0000");
        for (int r = 0; r < 6; r++) {
            x.row(r, 40);
        }
        for (int t = 0; t < 4; t++) {
            x.text(t, 60);
        }
        for (int k = 0; k < 39; k++) {
            x.hour();
        }
        x.soup();
        for (int k = 0; k < 3; k++) {
            x.keep(k);
        }
        int[] want = {6, 4, 39, 40, 0, 3, 63, 6, 6, 4, 3};
        for (int what = 0; what <= 10; what++) {
            c.due("count(" + what + ")", x.count(what), want[what]);
        }
    }

    private static void p45_count_nothingThere(Case c) {
        FeltCold x = Lived.without();
        int[] want = {0, 0, 0, 0, 0, 0, 0, 0, 4, 3, 0};
        for (int what = 0; what <= 10; what++) {
            c.due("count(" + what + ")", x.count(what), want[what]);
        }
    }

    private static void p45_count_most40Hours(Case c) {
        FeltCold x = Check.town("r1531o1500");
        for (int h = 1; h <= 40; h++) {
            x.hour();
            c.due("count(2)", x.count(2), h);
        }
    }

    private static void p45_count_emptyRowsAndTextsAreThere(Case c) {
        FeltCold x = new FeltCold();
        x.row(0, 0);
        x.text(0, 0);
        c.due("count(8)", x.count(8), 1);
        c.due("count(9)", x.count(9), 1);
    }

    private static void p45_count_sneezersAreFeverishOnesToo(Case c) {
        c.due("none", Check.town("r1531o1500t1500m1500a1500").count(7), 0);
        c.due("all", Check.town("r1531s1500f1500s1500f1500s1500f1500").count(7), 6);
        c.due("one of each kind", Check.town("r1531o1500s1500t1500m1500f1500a1500").count(7), 2);
    }

    private static void p45_count_keptOverIsOne(Case c) {
        FeltCold x = Check.town("r1531o1500");
        x.keep(1);
        x.keep(1);
        c.due("count(10)", x.count(10), 1);
    }

    private static void p45_count_changesAndTellsNothing(Case c) {
        for (int k = 0; k <= 10; k++) {
            int what = k;
            c.changesNothing("count(" + k + ")", Lived::town, x -> x.count(what));
            c.tellsNothing("count(" + k + ")", Lived::town, x -> x.count(what));
        }
    }

    // ---- 46 finding

    private static void p46_finding_0BeforeAny(Case c) {
        FeltCold x = new FeltCold();
        c.due("finding()", x.finding(), 0);
        x.row(6, 0);
        x.hour();
        x.count(11);
        c.due("finding() behind BAD, STATE", x.finding(), 0);
    }

    private static void p46_finding_latestOne(Case c) {
        FeltCold x = new FeltCold();
        x.tear(0);
        c.due("finding()", x.finding(), 1);
        x.row(0, -1);
        c.due("finding()", x.finding(), 5);
        x.tear(0);
        c.due("finding()", x.finding(), 1);
    }

    private static void p46_finding_staysBehindCallsThatAreTaken(Case c) {
        FeltCold x = Lived.town();
        x.row(0, 3);
        x.soup();
        x.town(0);
        x.undo(0);
        c.due("finding()", x.finding(), 4);
    }

    private static void p46_finding_staysBehindBadFullStateNone(Case c) {
        FeltCold x = Lived.full();
        c.due("BAD", x.row(0, 41), FeltCold.BAD);
        c.due("FULL", x.hour(), FeltCold.FULL);
        c.due("STATE", x.cold(0), FeltCold.STATE);
        c.due("NONE", x.fault(0), FeltCold.NONE);
        c.due("finding()", x.finding(), 4);
    }

    private static void p46_finding_changesNothing(Case c) {
        c.changesNothing("finding()", Lived::town, x -> x.finding());
        c.tellsNothing("finding()", Lived::town, x -> x.finding());
    }

    // ---- 47 findings

    private static void p47_findings_oneTo5AreTaken(Case c) {
        FeltCold x = Lived.town();
        for (int f = 1; f <= 5; f++) {
            c.due("findings(" + f + ")", x.findings(f), 1);
        }
    }

    private static void p47_findings_numbersBeyondAreBad(Case c) {
        c.bad("findings(0)", Lived::town, x -> x.findings(0));
        c.bad("findings(6)", Lived::town, x -> x.findings(6));
        c.bad("findings(-1)", Lived::town, x -> x.findings(-1));
        c.bad("findings(least)", Lived::town, x -> x.findings(LEAST));
        c.bad("findings(greatest)", Lived::town, x -> x.findings(GREATEST));
    }

    private static void p47_findings_eachIsCountedByItself(Case c) {
        FeltCold x = Check.town("r1531o1500");
        x.row(0, 0);
        for (int k = 0; k < 5; k++) {
            x.row(1, -1);
        }
        for (int k = 0; k < 4; k++) {
            x.mean(0);
        }
        for (int k = 0; k < 3; k++) {
            x.mark(0, 1);
        }
        for (int k = 0; k < 2; k++) {
            x.at(0, 0);
        }
        x.tear(1);
        for (int f = 1; f <= 5; f++) {
            c.due("findings(" + f + ")", x.findings(f), f);
        }
    }

    private static void p47_findings_asManyAsCallsCan(Case c) {
        FeltCold x = new FeltCold();
        for (int k = 1; k <= 500; k++) {
            x.tear(0);
        }
        c.due("findings(1)", x.findings(1), 500);
    }

    private static void p47_findings_refusedByOthersIsNotCounted(Case c) {
        FeltCold x = Lived.full();
        x.row(6, 0);
        x.hour();
        x.cold(0);
        for (int f = 1; f <= 5; f++) {
            c.due("findings(" + f + ")", x.findings(f), 1);
        }
    }

    private static void p47_findings_changesNothing(Case c) {
        c.changesNothing("findings(1)", Lived::town, x -> x.findings(1));
        c.tellsNothing("findings(1)", Lived::town, x -> x.findings(1));
    }

    // ---- 48 digest

    /** What the document says, over what the other calls answer and what the test itself has laid, modulo 2 to the 64th. */
    private static long digest(FeltCold x, int[] kept, int[][] rows, int[][] texts) {
        BigInteger h = BigInteger.valueOf(17);
        for (int what = 0; what <= 10; what++) {
            h = add(h, x.count(what));
        }
        for (int r = 0; r < x.count(1); r++) {
            for (int what = 0; what <= 3; what++) {
                h = add(h, x.room(r, what));
            }
        }
        for (int i = 0; i < x.count(0); i++) {
            for (int what = 0; what <= 7; what++) {
                x.member(i, what);
                h = add(h, x.asked());
            }
        }
        for (int number : kept) {
            h = add(h, number);
        }
        for (int[] row : rows) {
            h = add(h, row);
        }
        for (int[] text : texts) {
            h = add(h, text);
        }
        return h.longValue();
    }

    private static BigInteger add(BigInteger h, long v) {
        return h.multiply(BigInteger.valueOf(31)).add(BigInteger.valueOf(v));
    }

    /** A size and places, or -1. */
    private static BigInteger add(BigInteger h, int[] places) {
        if (places == null) {
            return add(h, -1);
        }
        BigInteger sum = add(h, places.length);
        for (int v : places) {
            sum = add(sum, v);
        }
        return sum;
    }

    private static int[] signs(String text) {
        return text.chars().toArray();
    }

    private static void p48_digest_ofANewObject(Case c) {
        FeltCold x = new FeltCold();
        c.due("digest()", x.digest(), digest(x, new int[] {-1, -1, -1}, new int[6][], new int[4][]));
    }

    private static void p48_digest_ofALivedTown(Case c) {
        FeltCold x = Lived.town();
        int[][] rows = {{0, 1, 1, 0}, {12, 1, 3, 0}, {}, {5}, null, null};
        int[][] texts = {signs(Lived.TEXT), signs("r1501"), {}, null};
        long got = x.digest();
        c.due("digest()", got, digest(x, new int[] {1, -1, 4}, rows, texts));
    }

    private static void p48_digest_everythingFullWrapsAround(Case c) {
        FeltCold x = Check.town("r3031r3031r3031r3031a3093a3093a3093a3093a3093a3093");
        for (int k = 0; k < 40; k++) {
            x.fire(3, k % 2);
        }
        int[][] rows = new int[6][40];
        for (int r = 0; r < 6; r++) {
            x.row(r, 40);
            for (int i = 0; i < 40; i += 5) {
                rows[r][i] = i % 2 == 0 ? GREATEST - r : LEAST + r;
                x.lay(r, i, rows[r][i]);
            }
        }
        int[][] texts = new int[4][60];
        for (int t = 0; t < 4; t++) {
            java.util.Arrays.fill(texts[t], 32);
            x.text(t, 60);
            for (int i = 0; i < 60; i += 20) {
                texts[t][i] = i == 20 ? -128 : 127;
                x.put(t, i, texts[t][i]);
            }
        }
        for (int k = 0; k < 3; k++) {
            x.keep(k);
        }
        long got = x.digest();
        c.due("digest()", got, digest(x, new int[] {40, 40, 40}, rows, texts));
    }

    private static void p48_digest_keptWithNoDeedsIs0NotMissing(Case c) {
        FeltCold x = Check.town("r1531o1500");
        int[][] texts = {signs("r1531o1500"), null, null, null};
        long without = x.digest();
        c.due("digest()", without, digest(x, new int[] {-1, -1, -1}, new int[6][], texts));
        x.keep(1);
        long with = x.digest();
        c.due("digest() with a kept one", with, digest(x, new int[] {-1, 0, -1}, new int[6][], texts));
    }

    private static void p48_digest_emptyIsNotMissing(Case c) {
        FeltCold x = new FeltCold();
        x.row(5, 0);
        x.text(3, 0);
        int[][] rows = {null, null, null, null, null, {}};
        int[][] texts = {null, null, null, {}};
        c.due("digest()", x.digest(), digest(x, new int[] {-1, -1, -1}, rows, texts));
        x.tear(5);
        rows[5] = null;
        c.due("digest() torn", x.digest(), digest(x, new int[] {-1, -1, -1}, rows, texts));
    }

    private static void p48_digest_tornRowsPlacesAreGone(Case c) {
        FeltCold x = new FeltCold();
        long before = x.digest();
        Check.lay(x, 0, 1, 2, 3);
        x.tear(0);
        c.due("digest()", x.digest(), before);
    }

    private static void p48_digest_bytesBelow0(Case c) {
        FeltCold x = new FeltCold();
        x.text(0, 2);
        x.put(0, 0, 255);
        x.put(0, 1, 128);
        int[][] texts = {{-1, -128}, null, null, null};
        c.due("digest()", x.digest(), digest(x, new int[] {-1, -1, -1}, new int[6][], texts));
    }

    private static void p48_digest_feelingsBelow0(Case c) {
        FeltCold x = Check.town("r1531o0000");
        x.love(0, -5);
        int[][] texts = {signs("r1531o0000"), null, null, null};
        long got = x.digest();
        c.due("digest()", got, digest(x, new int[] {-1, -1, -1}, new int[6][], texts));
    }

    private static void p48_digest_findingsAndToldDoNotMatter(Case c) {
        FeltCold x = Lived.town();
        long before = x.digest();
        x.tear(4);
        x.at(0, 0);
        x.odds(1, 3);
        c.due("digest()", x.digest(), before);
    }

    private static void p48_digest_changesAndTellsNothing(Case c) {
        FeltCold x = Lived.town();
        FeltCold same = Lived.town();
        long once = x.digest();
        c.due("digest() again", x.digest(), once);
        c.due("asked()", x.asked(), same.asked());
        c.due("upper()", x.upper(), same.upper());
        c.due("lower()", x.lower(), same.lower());
        c.due("finding()", x.finding(), same.finding());
        c.due("undo(0)", x.undo(0), same.undo(0));
        c.due("digest() undone", x.digest(), same.digest());
    }
}
