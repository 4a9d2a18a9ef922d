/** Boundary cases of promises 24 to 28: plans judged and sought, deaths foreseen, what would be without the barge. */
public final class EdgesOfPlansTest extends Edges {
    public static void main(String[] args) throws ReflectiveOperationException {
        runCases(EdgesOfPlansTest.class, 24, 28);
    }

    /** Sixty seasons have gone by: no deed has room any more, but plans are aside. */
    private static RiverBureau fullOfDeeds() {
        RiverBureau x = Due.deltaOf("r2 b1310 a1310");
        x.stamp(1);
        passSeasons(x, 59);
        return x;
    }

    // ---- 24 run

    static void p24_run_of_0_SEASONS() {
        RiverBureau x = busy();
        dueAsked("run(1)", x, x.run(1), 0, 0);
    }

    static void p24_run_of_12_SEASONS_is_the_longest() {
        RiverBureau x = Due.deltaOf("r1 b1310");
        x.row(0, 12);
        dueAsked("run(0)", x, x.run(0), 12, 0);
    }

    static void p24_run_of_13_SEASONS_is_SIZE() {
        RiverBureau x = Due.deltaOf("r1 b1310");
        x.row(0, 13);
        dueFound("run(0)", x, SIZE, y -> y.run(0));
        x.row(0, 40);
        dueFound("run(0) of 40", x, SIZE, y -> y.run(0));
    }

    static void p24_run_of_the_empty_set_and_of_the_full_one() {
        RiverBureau x = Due.deltaOf("r5 a1310 a1310 a1310 a1310 a1310");
        Due.fill(x, 0, 0, 31, 0, 31);
        dueAsked("run(0)", x, x.run(0), 0 + 5 + 5 + 0, 10);
        RiverBureau y = Due.deltaOf("r1 a1310");
        Due.fill(y, 0, 1);
        dueAsked("of one arm", y, y.run(0), 1, 1);
    }

    static void p24_run_of_what_is_no_set_is_UNLIKE() {
        RiverBureau x = Due.deltaOf("r5 a1310 a1310 a1310 a1310 a1310");
        Due.fill(x, 0, 32);
        dueFound("32 of five arms", x, UNLIKE, y -> y.run(0));
        Due.fill(x, 0, -1);
        dueFound("-1", x, UNLIKE, y -> y.run(0));
        Due.fill(x, 0, 0, 0, LEAST);
        dueFound("the least, at the end", x, UNLIKE, y -> y.run(0));
        Due.fill(x, 0, MOST, 0);
        dueFound("the most, at the beginning", x, UNLIKE, y -> y.run(0));
        RiverBureau one = Due.deltaOf("r1 a1310");
        Due.fill(one, 0, 2);
        dueFound("2 of one arm", one, UNLIKE, y -> y.run(0));
    }

    static void p24_run_of_a_last_of_12_that_is_no_set_is_UNLIKE() {
        RiverBureau x = Due.deltaOf("r1 a1310");
        x.row(0, 12);
        x.lay(0, 11, 2);
        dueFound("run(0)", x, UNLIKE, y -> y.run(0));
    }

    static void p24_run_of_a_missing_ROW_is_NOTHING() {
        dueFound("run(3)", NOTHING, x -> x.run(3));
    }

    static void p24_run_without_ARMS_is_STATE_ahead_of_NOTHING() {
        dueRefused("run(0)", new RiverBureau(), STATE, x -> x.run(0));
        RiverBureau x = new RiverBureau();
        x.row(0, 13);
        dueRefused("of 13", x, STATE, y -> y.run(0));
    }

    static void p24_run_of_row_minus_1_and_6_is_BAD_ahead_of_STATE() {
        dueRefused("run(-1)", BAD, x -> x.run(-1));
        dueRefused("run(6)", BAD, x -> x.run(6));
        dueRefused("without arms", new RiverBureau(), BAD, x -> x.run(6));
    }

    static void p24_SIZE_comes_ahead_of_UNLIKE() {
        RiverBureau x = busy();
        x.row(0, 13);
        x.lay(0, 0, -1);
        dueFound("run(0)", x, SIZE, y -> y.run(0));
    }

    static void p24_run_counts_no_STAMP_that_may_not_be() {
        RiverBureau x = Due.deltaOf("r1 b1010 a1021 a1010 a1010 w23");
        Due.fill(x, 0, 7);
        dueAsked("a barge, another day, a wait", x, x.run(0), 4, 0);
        Due.fill(x, 0, 0, 7);
        dueAsked("its day", x, x.run(0), 8, 1);
    }

    static void p24_run_stamps_by_numbers_as_others_were_stamped_ahead() {
        RiverBureau x = Due.deltaOf("r2 a1310 a1310 w10");
        Due.fill(x, 0, 3);
        dueAsked("0 is opened, then 1 may be", x, x.run(0), 2, 2);
        RiverBureau y = Due.deltaOf("r2 a1310 a1310 w01");
        Due.fill(y, 0, 3);
        dueAsked("0 waits for 1, which comes behind it", y, y.run(0), 1, 1);
    }

    static void p24_run_with_a_MARRIED_one_counts_one_STAMP_for_both() {
        RiverBureau x = Due.deltaOf("r2 m1310 a1310");
        x.leave(0);
        Due.fill(x, 0, 1);
        dueAsked("0 takes 1 along", x, x.run(0), 2, 1);
        Due.fill(x, 0, 3);
        dueAsked("1 is shut again", x, x.run(0), 1, 2);
    }

    static void p24_run_goes_from_now_on() {
        RiverBureau x = Due.deltaOf("r1 a1321");
        Due.fill(x, 0, 1, 0);
        dueAsked("in season 0", x, x.run(0), 0, 0);
        x.season();
        dueAsked("in season 1", x, x.run(0), 2, 1);
    }

    static void p24_run_is_aside() {
        RiverBureau x = busy();
        Due.fill(x, 0, 31, 31, 31, 31, 31, 31, 31, 31, 31, 31, 31, 31);
        int harvests = x.run(0);
        dueAside("again", x, harvests, y -> y.run(0));
    }

    static void p24_run_with_60_DEEDS() {
        RiverBureau x = fullOfDeeds();
        Due.fill(x, 0, 2, 0, 2);
        dueAsked("shut, shut, open", x, x.run(0), 1 + 1 + 2, 2);
    }

    // ---- 25 best

    static void p25_best_of_0_SEASONS_is_an_empty_ROW() {
        RiverBureau x = busy();
        dueAsked("best(0, 2)", x, x.best(0, 2), 0, 0);
        Due.dueRow("best", x, 2);
        dueAsked("best(0, 5) of a missing one", x, x.best(0, 5), 0, 0);
        Due.dueRow("best", x, 5);
    }

    static void p25_best_of_3_SEASONS_is_the_longest() {
        RiverBureau x = Due.deltaOf("r1 a1110 a1110 a1110 a1110 a1110");
        dueAsked("best(3, 0)", x, x.best(3, 0), 9, 3);
        Due.dueRow("best", x, 0, 7, 0, 0);
    }

    static void p25_best_of_minus_1_and_of_4_SEASONS_is_BAD() {
        dueRefused("best(-1, 0)", BAD, x -> x.best(-1, 0));
        dueRefused("best(4, 0)", BAD, x -> x.best(4, 0));
        dueRefused("best(LEAST, 0)", BAD, x -> x.best(LEAST, 0));
        dueRefused("best(MOST, 0)", BAD, x -> x.best(MOST, 0));
    }

    static void p25_best_in_row_minus_1_and_6_is_BAD() {
        dueRefused("best(1, -1)", BAD, x -> x.best(1, -1));
        dueRefused("best(1, 6)", BAD, x -> x.best(1, 6));
    }

    static void p25_best_without_ARMS_is_STATE_behind_BAD() {
        dueRefused("best(0, 0)", new RiverBureau(), STATE, x -> x.best(0, 0));
        dueRefused("best(4, 0)", new RiverBureau(), BAD, x -> x.best(4, 0));
        dueRefused("best(0, 6)", new RiverBureau(), BAD, x -> x.best(0, 6));
    }

    static void p25_best_comes_to_the_ROW_anew() {
        RiverBureau x = Due.deltaOf("r1 a1310");
        x.row(0, 40);
        x.best(2, 0);
        Due.dueRow("smaller than it was", x, 0, 1, 0);
        x.row(5, 0);
        x.best(1, 5);
        Due.dueRow("larger than it was", x, 5, 1);
    }

    static void p25_best_without_any_HARVEST_does_nothing() {
        RiverBureau x = Due.deltaOf("r1 a1910 a1910");
        dueAsked("best(3, 0)", x, x.best(3, 0), 0, 0);
        Due.dueRow("best", x, 0, 0, 0, 0);
    }

    static void p25_best_without_any_HARVEST_behind_another_one_that_had_some() {
        RiverBureau x = Due.deltaOf("r1 a1310 a1310");
        dueAsked("best(3, 0)", x, x.best(3, 0), 3, 1);
        Due.dueRow("best", x, 0, 1, 0, 0);
        x.need(0, 9);
        x.need(1, 9);
        dueAsked("best(3, 0) then", x, x.best(3, 0), 0, 0);
        Due.dueRow("best", x, 0, 0, 0, 0);
    }

    static void p25_best_of_alike_HARVESTS_has_the_fewest_STAMPS() {
        RiverBureau x = Due.deltaOf("r2 a1310 a1310 m1310 a1310");
        x.leave(2);
        dueAsked("one stamp for both, not 3 with two", x, x.best(1, 0), 2, 1);
        Due.dueRow("best", x, 0, 4);
    }

    static void p25_best_of_alike_STAMPS_is_the_first() {
        RiverBureau x = Due.deltaOf("r1 a1310 a1310");
        dueAsked("either of two", x, x.best(1, 0), 1, 1);
        Due.dueRow("best", x, 0, 1);
        RiverBureau y = Due.deltaOf("r1 a1910 a1321 a1321");
        dueAsked("either of two in the second season", y, y.best(2, 0), 1, 1);
        Due.dueRow("best", y, 0, 0, 2);
    }

    static void p25_best_of_alike_ones_has_a_smaller_first_number_ahead() {
        RiverBureau x = Due.deltaOf("r2 a1310 a1321 a1321");
        dueAsked("0 at first, then 1 rather than 2", x, x.best(2, 0), 3, 2);
        Due.dueRow("best", x, 0, 1, 2);
    }

    static void p25_best_has_more_HARVESTS_ahead_of_fewer_STAMPS() {
        RiverBureau x = Due.deltaOf("r5 a1310 a1310 a1310 a1310 a1310");
        dueAsked("five stamps", x, x.best(1, 0), 5, 5);
        Due.dueRow("best", x, 0, 31);
    }

    static void p25_best_tells_no_STAMP_that_may_not_be() {
        RiverBureau x = Due.deltaOf("r1 b1310 a1021 a1010 w21");
        dueAsked("all have theirs", x, x.best(1, 0), 3, 0);
        Due.dueRow("best", x, 0, 0);
    }

    static void p25_best_changes_its_ROW_alone() {
        RiverBureau x = busy();
        x.best(3, 0);
        Due.due("deeds", x.count(2), 2);
        dueAsked("season and open arms", x, x.now(), 1, 25);
        Due.due("rows", x.count(6), 3);
    }

    static void p25_best_is_what_run_says_of_it() {
        RiverBureau x = busy();
        int harvests = x.best(3, 4);
        int stamps = x.asked();
        dueAsked("run(4)", x, x.run(4), harvests, stamps);
    }

    static void p25_best_with_60_DEEDS() {
        RiverBureau x = fullOfDeeds();
        dueAsked("best(3, 0)", x, x.best(3, 0), 6, 0);
        Due.dueRow("best", x, 0, 0, 0, 0);
        x.need(0, 6);
        dueAsked("best(1, 0)", x, x.best(1, 0), 1, 0);
    }

    static void p25_best_where_SALT_ends_HARVESTS() {
        RiverBureau x = Due.deltaOf("r1 b1410");
        passSeasons(x, 5);
        x.need(0, 3);
        dueAsked("salt 5: not the first", x, x.best(2, 0), 1, 0);
    }

    static void p25_best_where_ARMS_die() {
        RiverBureau x = Due.deltaOf("r1 s1010 s1010");
        passSeasons(x, 4);
        dueAsked("either way in the season in which they die", x, x.best(1, 0), 2, 0);
        dueAsked("opened in time", x, x.best(2, 0), 4, 2);
        Due.dueRow("best", x, 0, 3, 0);
    }

    // ---- 26 fewest

    static void p26_fewest_of_0_SEASONS_is_NONE() {
        RiverBureau x = Due.deltaOf("r1 b1010");
        x.season();
        dueAside("fewest(0, 0, 0)", x, NONE, y -> y.fewest(0, 0, 0));
    }

    static void p26_fewest_of_3_SEASONS_is_the_longest() {
        RiverBureau x = Due.deltaOf("r1 a1310");
        Due.due("fewest(0, 3, 5)", x.fewest(0, 3, 5), 1);
        Due.dueRow("as late as can be", x, 5, 0, 0, 1);
    }

    static void p26_fewest_of_minus_1_and_of_4_SEASONS_is_BAD() {
        dueRefused("fewest(0, -1, 0)", BAD, x -> x.fewest(0, -1, 0));
        dueRefused("fewest(0, 4, 0)", BAD, x -> x.fewest(0, 4, 0));
        dueRefused("fewest(0, MOST, 0)", BAD, x -> x.fewest(0, MOST, 0));
    }

    static void p26_fewest_of_an_ARM_that_there_is_not_is_BAD() {
        dueRefused("fewest(-1, 1, 0)", BAD, x -> x.fewest(-1, 1, 0));
        dueRefused("fewest(5, 1, 0)", BAD, x -> x.fewest(5, 1, 0));
        dueRefused("without arms", new RiverBureau(), BAD, x -> x.fewest(0, 1, 0));
        dueRefused("without arms, of none", new RiverBureau(), BAD, x -> x.fewest(0, 0, 0));
    }

    static void p26_fewest_in_row_minus_1_and_6_is_BAD() {
        dueRefused("fewest(0, 1, -1)", BAD, x -> x.fewest(0, 1, -1));
        dueRefused("fewest(0, 1, 6)", BAD, x -> x.fewest(0, 1, 6));
        dueRefused("of none", BAD, x -> x.fewest(0, 0, 6));
    }

    static void p26_fewest_of_0_STAMPS() {
        RiverBureau x = Due.deltaOf("r1 b1310 a1010");
        Due.due("open", x.fewest(0, 3, 0), 0);
        Due.dueRow("nothing is done", x, 0, 0, 0, 0);
        Due.due("shut, needs 0", x.fewest(1, 1, 0), 0);
        Due.dueRow("nothing is done", x, 0, 0);
    }

    static void p26_fewest_that_can_not_be_is_NONE_and_leaves_the_ROW() {
        RiverBureau x = Due.deltaOf("r1 a1910 a1310");
        Due.fill(x, 0, 4, 5);
        dueAside("fewest(0, 3, 0)", x, NONE, y -> y.fewest(0, 3, 0));
        dueAside("of a missing one", x, NONE, y -> y.fewest(0, 3, 4));
    }

    static void p26_fewest_behind_another_one_is_its_own() {
        RiverBureau x = Due.deltaOf("r1 a1310 b1010 a1310");
        x.leave(1);
        Due.due("of 2", x.fewest(2, 1, 0), 1);
        Due.dueRow("of 2", x, 0, 4);
        Due.due("of 0", x.fewest(0, 1, 0), 1);
        Due.dueRow("of 0", x, 0, 1);
        Due.due("of 1, which needs 0", x.fewest(1, 1, 0), 0);
        Due.dueRow("of 1", x, 0, 0);
    }

    static void p26_fewest_of_a_DEAD_one_is_NONE() {
        RiverBureau x = Due.deltaOf("r1 s1010");
        passSeasons(x, 4);
        Due.due("in the season in which it dies", x.fewest(0, 1, 0), 0);
        Due.due("opened in time", x.fewest(0, 2, 0), 1);
        Due.dueRow("opened in time", x, 0, 1, 0);
        x.season();
        Due.due("dead", x.fewest(0, 1, 0), NONE);
    }

    static void p26_fewest_looks_at_the_last_SEASON_alone() {
        RiverBureau x = Due.deltaOf("r1 b1310 a1310 w10");
        Due.due("it has it all along", x.fewest(0, 2, 0), 0);
        x.need(0, 4);
        Due.due("never enough", x.fewest(0, 1, 0), NONE);
        RiverBureau y = Due.deltaOf("r1 a1321 a1310");
        Due.due("not its day in the only one", y.fewest(0, 1, 0), NONE);
        Due.due("its day is the last", y.fewest(0, 2, 0), 1);
        Due.dueRow("its day is the last", y, 0, 0, 1);
        Due.due("its day is the one ahead", y.fewest(0, 3, 0), 1);
        Due.dueRow("its day is the one ahead", y, 0, 0, 1, 0);
    }

    static void p26_fewest_of_alike_many_is_the_first_PLAN() {
        RiverBureau x = Due.deltaOf("r1 m1910 a1310");
        x.leave(0);
        Due.due("its own stamp", x.fewest(1, 1, 0), 1);
        Due.dueRow("its own stamp", x, 0, 2);
        RiverBureau y = Due.deltaOf("r2 m1110 a1110");
        y.leave(0);
        Due.due("taken along, or its own stamp", y.fewest(1, 1, 0), 1);
        Due.dueRow("taken along comes first", y, 0, 1);
    }

    static void p26_fewest_has_fewer_STAMPS_ahead_of_the_first_PLAN() {
        RiverBureau x = Due.deltaOf("r1 a1310 a1310 a1310 w20");
        Due.due("open 0 and 2, then shut 0", x.fewest(2, 2, 0), 3);
        Due.dueRow("in its own season", x, 0, 5, 1);
        x.awaits(2, 0, 0);
        Due.due("its own alone", x.fewest(2, 2, 0), 1);
        Due.dueRow("its own alone, at the end", x, 0, 0, 4);
    }

    static void p26_fewest_leaves_asked() {
        RiverBureau x = busy();
        x.fewest(0, 2, 0);
        Due.due("asked()", x.asked(), TOLD);
    }

    static void p26_fewest_comes_to_the_ROW_anew() {
        RiverBureau x = Due.deltaOf("r1 a1310");
        x.row(0, 40);
        x.fewest(0, 1, 0);
        Due.dueRow("smaller than it was", x, 0, 1);
    }

    static void p26_fewest_with_60_DEEDS() {
        RiverBureau x = fullOfDeeds();
        x.need(0, 6);
        Due.due("the other is shut", x.fewest(0, 1, 0), 1);
        Due.dueRow("the other is shut", x, 0, 2);
        Due.due("deeds", x.count(2), 60);
    }

    static void p26_fewest_where_SALT_is_above_4() {
        RiverBureau x = Due.deltaOf("r1 b1410");
        passSeasons(x, 5);
        x.need(0, 3);
        Due.due("salt 5", x.fewest(0, 1, 0), NONE);
        Due.due("salt 4 then", x.fewest(0, 2, 0), 0);
    }

    // ---- 27 dies

    static void p27_dies_without_ARMS_is_STATE() {
        dueRefused("dies()", new RiverBureau(), STATE, x -> x.dies());
    }

    static void p27_dies_in_1_SEASON() {
        RiverBureau x = Due.deltaOf("r1 a1010");
        passSeasons(x, 8);
        dueAsked("dies()", x, x.dies(), 0, 1);
    }

    static void p27_dies_in_9_SEASONS_and_SILTY_ones_in_5() {
        RiverBureau x = Due.deltaOf("r1 a1010");
        dueAsked("an arm", x, x.dies(), 0, 9);
        x = Due.deltaOf("r1 a1010 s1010");
        dueAsked("a silty one", x, x.dies(), 1, 5);
        x = Due.deltaOf("r1 a1010 l1010");
        dueAsked("a leaky one", x, x.dies(), 1, 5);
    }

    static void p27_dies_of_alike_ones_is_the_first() {
        RiverBureau x = Due.deltaOf("r1 b1010 a1010 s1010 l1010 s1010");
        dueAsked("dies()", x, x.dies(), 2, 5);
    }

    static void p27_dies_where_all_are_OPEN_is_NONE_and_leaves_asked() {
        RiverBureau x = Due.deltaOf("r1 b1910 m1910");
        x.row(0, 1);
        x.lay(0, 0, TOLD);
        x.at(0, 0);
        dueRefused("dies()", x, NONE, y -> y.dies());
        Due.due("asked()", x.asked(), TOLD);
    }

    static void p27_dies_where_all_are_DEAD_is_NONE() {
        RiverBureau x = Due.deltaOf("r1 s1010 l1010");
        passSeasons(x, 5);
        Due.due("dies()", x.dies(), NONE);
    }

    static void p27_DEAD_ones_are_aside() {
        RiverBureau x = Due.deltaOf("r1 s1010 a1010");
        passSeasons(x, 5);
        dueAsked("dies()", x, x.dies(), 1, 4);
    }

    static void p27_dies_is_aside() {
        dueAside("dies()", busy(), 2, x -> x.dies());
    }

    static void p27_dies_with_60_DEEDS() {
        RiverBureau x = Due.deltaOf("r1 b1010 a1010");
        x.stamp(1);
        passSeasons(x, 57);
        x.stamp(1);
        x.season();
        Due.due("deeds", x.count(2), 60);
        dueAsked("dies()", x, x.dies(), 1, 8);
    }

    // ---- 28 barge

    static void p28_barge_for_0_SEASONS_is_100() {
        Due.due("barge(0, 0)", Due.deltaOf("r1 b1310").barge(0, 0), 100);
    }

    static void p28_barge_for_12_SEASONS_is_the_longest() {
        Due.due("12 fewer", Due.deltaOf("r1 b1310").barge(0, 12), 88);
        Due.due("1 fewer", Due.deltaOf("r1 b1310").barge(0, 1), 99);
    }

    static void p28_barge_for_minus_1_and_for_13_SEASONS_is_BAD() {
        dueRefused("barge(3, -1)", BAD, x -> x.barge(3, -1));
        dueRefused("barge(3, 13)", BAD, x -> x.barge(3, 13));
        dueRefused("without one there", BAD, x -> x.barge(0, 13));
        dueRefused("barge(3, LEAST)", BAD, x -> x.barge(3, LEAST));
    }

    static void p28_barge_of_an_ARM_that_there_is_not_is_BAD() {
        dueRefused("barge(-1, 1)", BAD, x -> x.barge(-1, 1));
        dueRefused("barge(5, 1)", BAD, x -> x.barge(5, 1));
        dueRefused("without arms", new RiverBureau(), BAD, x -> x.barge(0, 0));
    }

    static void p28_barge_that_is_not_there_is_100() {
        RiverBureau x = Due.deltaOf("r1 a1310 b1310");
        x.stamp(0);
        Due.due("an open arm that is no barged one", x.barge(0, 12), 100);
        x.leave(1);
        Due.due("it has left", x.barge(1, 12), 100);
        x.stamp(1);
        Due.due("it has left, the arm is open", x.barge(1, 12), 100);
    }

    static void p28_barge_with_as_many_HARVESTS_is_100() {
        Due.due("each has one of two", Due.deltaOf("r1 b1210 b1310").barge(0, 6), 100);
    }

    static void p28_barge_with_more_HARVESTS_is_above_100() {
        RiverBureau x = Due.deltaOf("r4 b9910 b1310 b1310 b1310 b1310");
        Due.due("9 of 12 to the wide one: 9 for 9; then 3 each", x.barge(0, 1), 103);
        Due.due("12 seasons of 3 more", x.barge(0, 12), 136);
    }

    static void p28_barge_that_leaves_lets_the_ARM_die() {
        RiverBureau x = Due.deltaOf("r1 b1010");
        Due.due("dead behind 9 of 12 seasons", x.barge(0, 12), 97);
        Due.due("in 9 seasons none is lost", x.barge(0, 9), 100);
        Due.due("in 10 the last", x.barge(0, 10), 99);
    }

    static void p28_barge_is_aside() {
        RiverBureau x = busy();
        int told = x.barge(3, 12);
        dueAside("barge(3, 12)", x, told, y -> y.barge(3, 12));
        Due.due("asked()", x.asked(), TOLD);
        Due.due("it is there", x.mark(3, 3), 1);
    }

    static void p28_barge_with_60_DEEDS() {
        Due.due("12 fewer", fullOfDeeds().barge(0, 12), 88);
    }
}
