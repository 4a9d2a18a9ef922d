/** Boundary cases of promises 35 and 36: chances and lots. */
public final class EdgesOfLotsTest extends Edges {
    private static final long FACTOR = 48271, MODULUS = 2147483647;

    public static void main(String[] args) throws ReflectiveOperationException {
        runCases(EdgesOfLotsTest.class, 35, 36);
    }

    private static void dueOdds(String when, RiverBureau x, int i, int upper, int lower) {
        Due.due(when + ": odds(" + i + ")", x.odds(i), 1);
        Due.due(when + ": upper()", x.upper(), upper);
        Due.due(when + ": lower()", x.lower(), lower);
    }

    // ---- 35 odds

    static void p35_odds_of_an_ARM_that_there_is_not_is_BAD() {
        dueRefused("odds(-1)", BAD, x -> x.odds(-1));
        dueRefused("odds(5)", BAD, x -> x.odds(5));
        dueRefused("odds(LEAST)", BAD, x -> x.odds(LEAST));
        dueRefused("odds(MOST)", BAD, x -> x.odds(MOST));
        dueRefused("without arms", new RiverBureau(), BAD, x -> x.odds(0));
    }

    static void p35_odds_of_0_are_0_by_1() {
        dueOdds("of 32", Due.deltaOf("r1 a1910 a1010 a1010 a1010 a1010"), 0, 0, 1);
        dueOdds("of 1", Due.deltaOf("r1 b1410"), 0, 0, 1);
    }

    static void p35_odds_that_are_sure_are_1_by_1() {
        dueOdds("of 32", Due.deltaOf("r1 a1010 a1010 a1010 a1010 a1010"), 4, 1, 1);
        dueOdds("of 1", Due.deltaOf("r1 b1310"), 0, 1, 1);
    }

    static void p35_odds_of_1_by_32() {
        dueOdds("it alone", Due.deltaOf("r1 a1310 a1010 a1010 a1010 a1010"), 0, 1, 32);
    }

    static void p35_odds_in_lowest_terms() {
        dueOdds("16 of 32", Due.deltaOf("r5 a1310 a1010 a1010 a1010 a1010"), 0, 1, 2);
        dueOdds("5 of 32: 6 for 3", Due.deltaOf("r2 a1310 a1010 a1010 a1010 a1010"), 0, 5, 32);
        dueOdds("1 of 2", Due.deltaOf("r1 a1310"), 0, 1, 2);
        dueOdds("7 of 16: not if all are open", Due.deltaOf("r2 a1210 a1210 a1210 a1210"), 3, 7, 16);
        dueOdds("8 of 16", Due.deltaOf("r2 a1210 a1210 a1210 a1210"), 0, 1, 2);
        dueOdds("15 of 16", Due.deltaOf("r1 a1010 a1010 a1010 l1110"), 3, 15, 16);
        dueOdds("6 of 8", Due.deltaOf("r1 b1010 b1010 a1010 l1110 a1010"), 3, 3, 4);
    }

    static void p35_odds_where_none_may_be_STAMPED() {
        RiverBureau x = Due.deltaOf("r1 b1310 a1021 a1010 w21");
        dueOdds("as all are now", x, 0, 1, 1);
        dueOdds("as all are now", x, 1, 1, 1);
    }

    static void p35_odds_where_one_may_not_be_any_more() {
        RiverBureau x = Due.deltaOf("r3 a1110 a1110 w10");
        x.stamp(0);
        dueOdds("1 waits for 0, which is shut ahead of it in 2 of 4", x, 1, 1, 4);
    }

    static void p35_odds_where_one_may_not_be_as_all_are_now() {
        RiverBureau x = Due.deltaOf("r3 a1110 a1110 w10");
        dueOdds("1 waits for 0 as all are now", x, 1, 0, 1);
        dueOdds("0 has two cases alone", x, 0, 1, 2);
    }

    static void p35_odds_of_one_that_is_taken_along() {
        RiverBureau x = Due.deltaOf("r3 m1110 a1121");
        x.leave(0);
        dueOdds("if 0 is stamped", x, 1, 1, 2);
    }

    static void p35_odds_with_SALT_of_4_and_of_5() {
        RiverBureau x = Due.deltaOf("r1 b1410");
        passSeasons(x, 4);
        x.need(0, 3);
        dueOdds("salt 4", x, 0, 1, 1);
        x.need(0, 4);
        x.season();
        x.need(0, 3);
        dueOdds("salt 5", x, 0, 0, 1);
    }

    static void p35_odds_of_a_DEAD_one_are_0_by_1() {
        RiverBureau x = Due.deltaOf("r1 s1010 a1010");
        passSeasons(x, 5);
        dueOdds("dead", x, 0, 0, 1);
    }

    static void p35_odds_are_aside_and_leave_asked() {
        RiverBureau x = busy();
        long digest = x.digest();
        x.odds(2);
        Due.due("digest", x.digest(), digest);
        Due.due("asked()", x.asked(), TOLD);
    }

    static void p35_odds_with_60_DEEDS() {
        RiverBureau x = Due.deltaOf("r1 a1310");
        x.stamp(0);
        passSeasons(x, 59);
        dueOdds("open or shut", x, 0, 1, 2);
    }

    // ---- 36 lots

    /** The sets that a seed brings, by the document's words. */
    private static int[] setsOf(int seed, int many, int sets) {
        int[] out = new int[many];
        long number = seed;
        for (int k = 0; k < many; k++) {
            number = number * FACTOR % MODULUS;
            out[k] = (int) (number / 32 % sets);
        }
        return out;
    }

    /** The first seed whose first set, of 32, is that one. */
    private static int seedFor(int set) {
        int seed = 1;
        while (setsOf(seed, 1, 32)[0] != set) {
            seed++;
        }
        return seed;
    }

    static void p36_lots_of_0_and_of_21_SEASONS_is_BAD() {
        dueRefused("lots(0, 1)", BAD, x -> x.lots(0, 1));
        dueRefused("lots(21, 1)", BAD, x -> x.lots(21, 1));
        dueRefused("lots(-1, 1)", BAD, x -> x.lots(-1, 1));
        dueRefused("lots(LEAST, 1)", BAD, x -> x.lots(LEAST, 1));
        dueRefused("lots(MOST, 1)", BAD, x -> x.lots(MOST, 1));
    }

    static void p36_lots_of_seed_0_and_of_2147483647_is_BAD() {
        dueRefused("lots(1, 0)", BAD, x -> x.lots(1, 0));
        dueRefused("lots(1, 2147483647)", BAD, x -> x.lots(1, MOST));
        dueRefused("lots(1, -1)", BAD, x -> x.lots(1, -1));
        dueRefused("lots(1, LEAST)", BAD, x -> x.lots(1, LEAST));
    }

    static void p36_lots_without_ARMS_is_STATE_behind_BAD() {
        dueRefused("lots(1, 1)", new RiverBureau(), STATE, x -> x.lots(1, 1));
        dueRefused("lots(0, 1)", new RiverBureau(), BAD, x -> x.lots(0, 1));
        dueRefused("lots(1, 0)", new RiverBureau(), BAD, x -> x.lots(1, 0));
    }

    static void p36_lots_of_1_and_of_20_SEASONS() {
        RiverBureau x = Due.deltaOf("r1 b1310");
        Due.due("lots(1, 1)", x.lots(1, 1), 1);
        Due.due("season", x.now(), 1);
        Due.due("lots(20, 1)", x.lots(20, 1), 20);
        Due.due("season", x.now(), 21);
    }

    private static void dueLotsAsPlan(String delta, int seed) {
        RiverBureau x = Due.deltaOf(delta);
        Due.fill(x, 0, setsOf(seed, 6, 1 << x.count(0)));
        int harvests = x.run(0);
        int stamps = x.asked();
        Due.due("lots(6, " + seed + ")", x.lots(6, seed), harvests);
        Due.due("deeds", x.count(2), stamps + 6);
        Due.due("season", x.now(), 6);
        Due.due("all harvests", x.count(9), harvests);
    }

    static void p36_lots_of_seed_1_and_of_2147483646() {
        for (int seed : new int[] {1, 2, 48271, 2147483645, 2147483646}) {
            dueLotsAsPlan("r4 a1310 a1210 t1110", seed);
            dueLotsAsPlan("r4 a1310 a1221 s1110 m1010 b1010 w01", seed);
        }
    }

    static void p36_lots_numbers_do_not_run_over() {
        int[] sets = setsOf(2147483646, 1, 32);
        Due.due("the first number is 2147435376", sets[0], 2147435376 / 32 % 32);
        RiverBureau x = Due.deltaOf("r4 a1310 a1210 t1110 a1010 a1010");
        x.lots(1, 2147483646);
        dueOpen("by it", x, sets[0]);
    }

    static void p36_lots_of_1_ARM_have_two_sets() {
        dueLotsAsPlan("r1 a1310", 1);
        dueLotsAsPlan("r1 a1310", 77);
    }

    static void p36_lots_of_the_empty_set_and_of_the_full_one() {
        RiverBureau x = Due.deltaOf("r5 a1310 a1310 a1310 a1310 a1310");
        Due.due("the empty set", x.lots(1, seedFor(0)), 0);
        Due.due("one deed", x.count(2), 1);
        Due.due("the full one", x.lots(1, seedFor(31)), 5);
        Due.due("six deeds more", x.count(2), 7);
        dueOpen("all", x, 31);
    }

    static void p36_lots_with_room_for_just_6_DEEDS() {
        RiverBureau x = Due.deltaOf("r5 a1310 a1310 a1310 a1310 a1310");
        for (int d = 0; d < 54; d++) {
            x.stamp(0);
        }
        Due.due("lots", x.lots(1, seedFor(31)), 5);
        Due.due("deeds", x.count(2), 60);
        Due.due("season", x.now(), 1);
    }

    static void p36_lots_without_room_for_6_DEEDS_does_nothing() {
        RiverBureau x = Due.deltaOf("r5 a1310 b1310 a1310 a1310 a1310");
        for (int d = 0; d < 55; d++) {
            x.stamp(0);
        }
        dueAside("room for 5", x, 0, y -> y.lots(20, 1));
        for (int d = 0; d < 5; d++) {
            x.stamp(0);
        }
        dueAside("room for 0", x, 0, y -> y.lots(1, 1));
    }

    static void p36_lots_end_where_6_more_would_not_have_room() {
        RiverBureau x = Due.deltaOf("r1 b1310");
        passSeasons(x, 50);
        Due.due("five of twenty: 50, 51, .. 54", x.lots(20, 3), 5);
        Due.due("deeds", x.count(2), 55);
        RiverBureau y = Due.deltaOf("r1 b1310");
        for (int k = 0; k < 2; k++) {
            Due.due("twenty", y.lots(20, 9), 20);
        }
        Due.due("fifteen of twenty", y.lots(20, 9), 15);
        Due.due("deeds", y.count(2), 55);
    }

    static void p36_lots_can_be_undone_STAMP_by_STAMP() {
        RiverBureau x = Due.deltaOf("r5 a1310 a1310 a1310 a1310 a1310");
        x.lots(1, seedFor(31));
        Due.due("the season", x.undo(5), 1);
        dueOpen("all five are stamped", x, 31);
        Due.due("the last stamp", x.undo(4), 1);
        dueOpen("four are stamped", x, 15);
    }

    static void p36_lots_leave_asked_and_chances() {
        RiverBureau x = busy();
        long upper = x.upper();
        x.lots(3, 3);
        Due.due("asked()", x.asked(), TOLD);
        Due.due("upper()", x.upper(), upper);
    }
}
