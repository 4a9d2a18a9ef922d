/** Boundary cases of promises 16 to 23: stamps, seasons, barges that leave, undone, kept, gone on from. */
public final class EdgesOfDeedsTest extends Edges {
    private static final int NEED = 2, SALT = 4, SILT = 5, HARVESTS = 6;

    public static void main(String[] args) throws ReflectiveOperationException {
        runCases(EdgesOfDeedsTest.class, 16, 23);
    }

    /** A delta of a plain arm and a barged one, with as many deeds as wanted (stamps of the plain one). */
    private static RiverBureau withDeeds(int many) {
        RiverBureau x = Due.deltaOf("r1 a1010 b1010 a1050");
        for (int d = 0; d < many; d++) {
            x.stamp(0);
        }
        Due.due("deeds", x.count(2), many);
        return x;
    }

    // ---- 16 stamp

    static void p16_stamp_opens_a_SHUT_one_and_shuts_an_OPEN_one() {
        RiverBureau x = Due.deltaOf("r1 a1010 a1010 a1010 a1010 a1010");
        Due.due("the first", x.stamp(0), 1);
        Due.due("the last", x.stamp(4), 17);
        Due.due("the first again", x.stamp(0), 16);
        Due.due("the last again", x.stamp(4), 0);
    }

    static void p16_stamp_of_an_ARM_that_there_is_not_is_BAD() {
        dueRefused("stamp(-1)", BAD, x -> x.stamp(-1));
        dueRefused("stamp(5)", BAD, x -> x.stamp(5));
        dueRefused("stamp(LEAST)", BAD, x -> x.stamp(LEAST));
        dueRefused("stamp(MOST)", BAD, x -> x.stamp(MOST));
        dueRefused("without arms", new RiverBureau(), BAD, x -> x.stamp(0));
    }

    static void p16_stamp_not_on_its_DAY_is_STATE() {
        RiverBureau x = Due.deltaOf("r1 a1065");
        for (int season = 0; season < 5; season++) {
            dueRefused("season " + season, x, STATE, y -> y.stamp(0));
            x.season();
        }
        Due.due("season 5", x.stamp(0), 1);
        x.season();
        dueRefused("season 6", x, STATE, y -> y.stamp(0));
    }

    static void p16_stamp_as_the_YEAR_wraps_around() {
        RiverBureau x = Due.deltaOf("r1 a1060");
        Due.due("season 0", x.stamp(0), 1);
        passSeasons(x, 6);
        Due.due("season 6", x.stamp(0), 0);
        Due.due("season 6 again", x.stamp(0), 1);
        passSeasons(x, 6);
        Due.due("season 12", x.stamp(0), 0);
    }

    static void p16_stamp_of_a_DEAD_one_is_STATE() {
        RiverBureau x = Due.deltaOf("r1 a1010");
        passSeasons(x, 8);
        Due.due("silt 8", x.stamp(0), 1);
        x.undo(8);
        x.season();
        dueRefused("silt 9", x, STATE, y -> y.stamp(0));
    }

    static void p16_stamp_of_one_whose_BARGE_is_there_is_STATE() {
        dueRefused("barged", Due.deltaOf("r1 b1010"), STATE, x -> x.stamp(0));
        dueRefused("married", Due.deltaOf("r1 m1010"), STATE, x -> x.stamp(0));
    }

    static void p16_stamp_of_one_whose_BARGE_is_gone() {
        RiverBureau x = Due.deltaOf("r1 b1010");
        x.leave(0);
        Due.due("opened", x.stamp(0), 1);
        Due.due("shut, though it is a barged one", x.stamp(0), 0);
    }

    static void p16_stamp_of_one_that_WAITS_is_STATE_to_open_and_to_shut() {
        RiverBureau x = Due.deltaOf("r1 a1010 a1010 w01");
        dueRefused("to open", x, STATE, y -> y.stamp(0));
        x.stamp(1);
        Due.due("it waits no more", x.stamp(0), 3);
        x.stamp(1);
        dueRefused("to shut", x, STATE, y -> y.stamp(0));
    }

    static void p16_stamps_that_WAIT_for_one_another_can_not_be() {
        RiverBureau x = Due.deltaOf("r1 a1010 a1010 w01 w10");
        dueRefused("stamp(0)", x, STATE, y -> y.stamp(0));
        dueRefused("stamp(1)", x, STATE, y -> y.stamp(1));
    }

    static void p16_stamp_is_the_60th_DEED_but_not_the_61st() {
        RiverBureau x = withDeeds(59);
        Due.due("the 60th", x.stamp(0), 2);
        dueRefused("the 61st", x, FULL, y -> y.stamp(0));
    }

    static void p16_BAD_and_STATE_come_ahead_of_FULL() {
        dueRefused("stamp(3)", withDeeds(60), BAD, x -> x.stamp(3));
        dueRefused("stamp(-1)", withDeeds(60), BAD, x -> x.stamp(-1));
        dueRefused("its barge is there", withDeeds(60), STATE, x -> x.stamp(1));
        RiverBureau x = Due.deltaOf("r1 b1010 a1021");
        passSeasons(x, 60);
        dueRefused("not its day", x, STATE, y -> y.stamp(1));
    }

    static void p16_MARRIED_stamp_takes_the_one_behind_along() {
        RiverBureau x = Due.deltaOf("r1 m1010 a1010 a1010");
        x.leave(0);
        Due.due("both open", x.stamp(0), 3);
        Due.due("both shut", x.stamp(0), 0);
        x.stamp(1);
        Due.due("open where it was open", x.stamp(0), 3);
        x.stamp(1);
        Due.due("shut where it was shut", x.stamp(0), 0);
        Due.due("one stamp, one deed", x.count(2), 7);
    }

    static void p16_MARRIED_stamp_of_the_last_ARM_takes_none_along() {
        RiverBureau x = Due.deltaOf("r1 a1010 a1010 a1010 a1010 m1010");
        x.leave(4);
        Due.due("alone", x.stamp(4), 16);
        Due.due("alone again", x.stamp(4), 0);
    }

    static void p16_MARRIED_stamp_takes_none_along_whose_BARGE_is_there() {
        RiverBureau x = Due.deltaOf("r1 m1010 b1010");
        x.leave(0);
        Due.due("open", x.stamp(0), 3);
        Due.due("shut alone", x.stamp(0), 2);
    }

    static void p16_MARRIED_stamp_takes_no_DEAD_one_along() {
        RiverBureau x = Due.deltaOf("r1 m1010 s1010");
        passSeasons(x, 5);
        x.leave(0);
        Due.due("alone", x.stamp(0), 1);
        Due.due("the dead one stays", x.count(3), 1);
    }

    static void p16_MARRIED_stamp_goes_no_further_than_the_one_behind() {
        RiverBureau x = Due.deltaOf("r1 m1010 m1010 a1010");
        x.leave(0);
        x.leave(1);
        Due.due("the next alone", x.stamp(0), 3);
    }

    static void p16_MARRIED_stamp_takes_along_what_may_not_be_STAMPED() {
        RiverBureau x = Due.deltaOf("r1 m1010 a1021 a1010 w12");
        x.leave(0);
        Due.due("not its day, it waits", x.stamp(0), 3);
    }

    static void p16_BARGED_stamp_takes_none_along() {
        RiverBureau x = Due.deltaOf("r1 b1010 a1010");
        x.leave(0);
        Due.due("alone", x.stamp(0), 1);
    }

    static void p16_stamp_leaves_asked() {
        RiverBureau x = busy();
        x.stamp(0);
        Due.due("asked()", x.asked(), TOLD);
    }

    // ---- 17 season

    static void p17_season_without_ARMS_is_STATE() {
        dueRefused("season()", new RiverBureau(), STATE, x -> x.season());
    }

    static void p17_season_is_the_60th_DEED_but_not_the_61st() {
        RiverBureau x = withDeeds(59);
        Due.due("the 60th", x.season(), 3);
        dueRefused("the 61st", x, FULL, y -> y.season());
    }

    static void p17_sixty_SEASONS_are_the_most() {
        RiverBureau x = Due.deltaOf("r1 b1010");
        passSeasons(x, 60);
        Due.due("season", x.now(), 60);
        dueRefused("one more", x, FULL, y -> y.season());
    }

    static void p17_season_without_a_HARVEST_and_with_all() {
        RiverBureau x = Due.deltaOf("r1 a1110 t1110");
        dueAsked("none", x, x.season(), 0, 0);
        x = Due.deltaOf("r9 b1110 b1110 b1110 b1110 b1110");
        dueAsked("all", x, x.season(), 5, 31);
    }

    static void p17_WATER_that_just_meets_the_NEED_is_enough() {
        RiverBureau x = Due.deltaOf("r2 b1310 b1410");
        dueAsked("3 for 3, 3 for 4", x, x.season(), 1, 1);
        Due.dueArm("enough", x, 0, SALT, 0);
        Due.dueArm("1 too little", x, 1, SALT, 1);
    }

    static void p17_SHUT_ARM_that_NEEDS_0_has_its_HARVEST() {
        RiverBureau x = Due.deltaOf("r1 a1010 a1110");
        dueAsked("without open ones", x, x.season(), 1, 1);
    }

    static void p17_SHUT_LEAKY_one_has_1_of_nowhere() {
        RiverBureau x = Due.deltaOf("r1 l1110 l1210 b1310");
        dueAsked("1 for 1, 1 for 2, all 3 for 3", x, x.season(), 2, 5);
    }

    static void p17_HARVEST_with_SALT_of_4_but_not_of_5() {
        RiverBureau x = Due.deltaOf("r1 b1410");
        passSeasons(x, 4);
        x.need(0, 3);
        Due.dueArm("4 seasons", x, 0, SALT, 4);
        dueAsked("salt 4 ahead of it", x, x.season(), 1, 1);
        x.undo(4);
        x.need(0, 4);
        x.season();
        x.need(0, 3);
        Due.dueArm("5 seasons", x, 0, SALT, 5);
        dueAsked("salt 5 ahead of it, 4 behind it", x, x.season(), 0, 0);
        Due.dueArm("1 less", x, 0, SALT, 4);
        dueAsked("salt 4 then", x, x.season(), 1, 1);
    }

    static void p17_HARVEST_by_SALT_ahead_of_what_the_SEASON_adds() {
        RiverBureau x = Due.deltaOf("r1 t1110");
        passSeasons(x, 2);
        x.need(0, 0);
        Due.due("salt 4, need 0", x.season(), 1);
    }

    static void p17_DEAD_one_has_no_HARVEST() {
        RiverBureau x = Due.deltaOf("r1 s1010 l1110 a1010");
        passSeasons(x, 4);
        dueAsked("as they die", x, x.season(), 3, 7);
        dueAsked("dead", x, x.season(), 1, 4);
        Due.dueArm("no more harvests", x, 0, HARVESTS, 5);
    }

    static void p17_SALT_of_TIDAL_ones_2_more_of_others_1() {
        RiverBureau x = Due.deltaOf("r1 a1110 t1110 s1110 l1210");
        x.season();
        int[] salts = {1, 2, 1, 1};
        for (int i = 0; i < 4; i++) {
            Due.dueArm("a season", x, i, SALT, salts[i]);
        }
        x = Due.deltaOf("r1 b1410 m1410");
        x.season();
        Due.dueArm("barged", x, 0, SALT, 1);
        Due.dueArm("married", x, 1, SALT, 1);
    }

    static void p17_SALT_of_TIDAL_ones_1_less() {
        RiverBureau x = Due.deltaOf("r1 t1110");
        x.season();
        x.need(0, 0);
        x.season();
        Due.dueArm("2, then 1", x, 0, SALT, 1);
    }

    static void p17_SALT_of_8_becomes_9_for_TIDAL_ones() {
        RiverBureau x = Due.deltaOf("r1 t1110");
        passSeasons(x, 4);
        Due.dueArm("4 seasons", x, 0, SALT, 8);
        x.season();
        Due.dueArm("5 seasons", x, 0, SALT, 9);
        x.need(0, 0);
        x.season();
        Due.dueArm("1 less than 9", x, 0, SALT, 8);
    }

    static void p17_SALT_of_DEAD_ones_goes_on() {
        RiverBureau x = Due.deltaOf("r1 s1110 s1010");
        passSeasons(x, 5);
        Due.dueArm("dead", x, 0, SALT, 5);
        x.season();
        Due.dueArm("1 more", x, 0, SALT, 6);
        x.need(0, 0);
        x.season();
        Due.dueArm("1 less", x, 0, SALT, 5);
    }

    static void p17_SILT_of_SHUT_ones_by_KIND() {
        RiverBureau x = Due.deltaOf("r1 a1010 t1010 s1010 l1010 b1010");
        x.leave(4);
        x.season();
        int[] silts = {1, 1, 2, 2, 1};
        for (int i = 0; i < 5; i++) {
            Due.dueArm("a season", x, i, SILT, silts[i]);
        }
        x = Due.deltaOf("r1 m1010");
        x.leave(0);
        x.season();
        Due.dueArm("married", x, 0, SILT, 1);
    }

    static void p17_SILT_of_OPEN_ones_1_less_0_at_least() {
        RiverBureau x = Due.deltaOf("r1 a1010 s1010");
        x.season();
        x.stamp(0);
        x.stamp(1);
        x.season();
        Due.dueArm("1, then 0", x, 0, SILT, 0);
        Due.dueArm("2, then 1", x, 1, SILT, 1);
        x.season();
        Due.dueArm("0 still", x, 0, SILT, 0);
    }

    static void p17_SILT_of_8_is_not_DEAD_of_9_is() {
        RiverBureau x = Due.deltaOf("r1 a1010");
        passSeasons(x, 8);
        Due.due("silt 8", x.count(3), 0);
        x.season();
        Due.due("silt 9", x.count(3), 1);
    }

    static void p17_SILT_above_9_is_DEAD_with_9() {
        RiverBureau x = Due.deltaOf("r1 s1010");
        passSeasons(x, 4);
        Due.dueArm("silt 8", x, 0, SILT, 8);
        Due.due("not dead", x.count(3), 0);
        x.season();
        Due.dueArm("10 is 9", x, 0, SILT, 9);
        Due.due("dead", x.count(3), 1);
    }

    static void p17_SILT_from_7_to_9_is_DEAD_for_SILTY_ones() {
        RiverBureau x = Due.deltaOf("r1 s1010");
        passSeasons(x, 4);
        x.stamp(0);
        x.season();
        x.stamp(0);
        Due.dueArm("silt 7", x, 0, SILT, 7);
        x.season();
        Due.due("silt 9", x.count(3), 1);
    }

    static void p17_OPEN_with_SILT_of_8_does_not_die() {
        RiverBureau x = Due.deltaOf("r1 a1010");
        passSeasons(x, 8);
        x.stamp(0);
        x.season();
        Due.dueArm("1 less", x, 0, SILT, 7);
        Due.due("none is dead", x.count(3), 0);
    }

    static void p17_DEAD_stays_DEAD_SHUT_with_SILT_of_9() {
        RiverBureau x = Due.deltaOf("r1 s1010 b1010");
        passSeasons(x, 5);
        for (int s = 0; s < 20; s++) {
            x.season();
            Due.due("dead", x.count(3), 1);
            Due.dueArm("dead", x, 0, SILT, 9);
            dueOpen("dead", x, 2);
        }
    }

    static void p17_season_leaves_ARMS_OPEN_and_SHUT() {
        RiverBureau x = Due.deltaOf("r1 b1010 a1010 a1010");
        x.stamp(2);
        x.season();
        dueOpen("a season on", x, 5);
    }

    // ---- 18 leave

    static void p18_leave_of_an_ARM_that_there_is_not_is_BAD() {
        dueRefused("leave(-1)", BAD, x -> x.leave(-1));
        dueRefused("leave(5)", BAD, x -> x.leave(5));
        dueRefused("without arms", new RiverBureau(), BAD, x -> x.leave(0));
    }

    static void p18_leave_where_none_is_there_is_STATE() {
        dueRefused("shut", busy(), STATE, x -> x.leave(2));
        dueRefused("open", busy(), STATE, x -> x.leave(0));
        RiverBureau x = Due.deltaOf("r1 b1010 m1010");
        x.leave(0);
        dueRefused("it has left", x, STATE, y -> y.leave(0));
        x.stamp(0);
        dueRefused("it has left, the arm is open", x, STATE, y -> y.leave(0));
    }

    static void p18_leave_shuts_the_ARM_and_no_other() {
        RiverBureau x = Due.deltaOf("r1 m1010 a1010 b1010");
        x.stamp(1);
        Due.due("leave(0)", x.leave(0), 1);
        dueOpen("the one behind stays", x, 6);
        Due.due("leave(2)", x.leave(2), 1);
        dueOpen("the last", x, 2);
        Due.due("barges", x.count(4), 0);
    }

    static void p18_leave_on_any_DAY_and_for_one_that_WAITS() {
        RiverBureau x = Due.deltaOf("r1 b1065 a1010 w01");
        Due.due("leave(0)", x.leave(0), 1);
    }

    static void p18_leave_is_the_60th_DEED_but_not_the_61st() {
        RiverBureau x = withDeeds(59);
        Due.due("the 60th", x.leave(1), 1);
        dueRefused("the 61st", withDeeds(60), FULL, y -> y.leave(1));
    }

    static void p18_BAD_and_STATE_come_ahead_of_FULL() {
        dueRefused("leave(3)", withDeeds(60), BAD, x -> x.leave(3));
        dueRefused("leave(-1)", withDeeds(60), BAD, x -> x.leave(-1));
        dueRefused("none is there", withDeeds(60), STATE, x -> x.leave(0));
    }

    static void p18_leave_leaves_asked() {
        RiverBureau x = busy();
        x.leave(3);
        Due.due("asked()", x.asked(), TOLD);
    }

    // ---- 19 undo

    static void p19_undo_from_as_many_as_DEEDS_is_0() {
        dueAside("undo(2) of 2", busy(), 0, x -> x.undo(2));
        dueAside("undo(60) of 60", withDeeds(60), 0, x -> x.undo(60));
    }

    static void p19_undo_from_one_more_than_DEEDS_is_BAD() {
        dueRefused("undo(3) of 2", BAD, x -> x.undo(3));
        dueRefused("undo(61) of 60", withDeeds(60), BAD, x -> x.undo(61));
        dueRefused("undo(MOST)", BAD, x -> x.undo(MOST));
    }

    static void p19_undo_from_below_0_is_BAD() {
        dueRefused("undo(-1)", BAD, x -> x.undo(-1));
        dueRefused("undo(LEAST)", BAD, x -> x.undo(LEAST));
    }

    static void p19_undo_without_ARMS() {
        dueAside("undo(0)", new RiverBureau(), 0, x -> x.undo(0));
        dueRefused("undo(1)", new RiverBureau(), BAD, x -> x.undo(1));
    }

    static void p19_undo_from_0_on_is_as_at_first() {
        RiverBureau x = Due.deltaOf("r1 b1310 s1010 t1110");
        long digest = x.digest();
        passSeasons(x, 58);
        x.leave(0);
        x.stamp(0);
        Due.due("undo(0)", x.undo(0), 60);
        Due.due("as at first", x.digest(), digest);
        Due.due("its barge is back", x.mark(0, 3), 1);
    }

    static void p19_undo_of_the_last_DEED_alone() {
        RiverBureau x = Due.deltaOf("r1 b1310 s1010 t1110");
        passSeasons(x, 4);
        long digest = x.digest();
        x.season();
        Due.due("it died", x.count(3), 1);
        Due.due("undo(4)", x.undo(4), 1);
        Due.due("as it was", x.digest(), digest);
        Due.due("it lives", x.stamp(1), 3);
    }

    static void p19_undo_gives_room_for_DEEDS() {
        RiverBureau x = withDeeds(60);
        x.undo(59);
        Due.due("the 60th", x.season(), 3);
        dueRefused("the 61st", x, FULL, y -> y.season());
    }

    static void p19_undo_of_each_sort_of_DEED() {
        RiverBureau x = Due.deltaOf("r1 b1310 a1010");
        long atFirst = x.digest();
        x.leave(0);
        x.undo(0);
        Due.due("the barge", x.digest(), atFirst);
        x.stamp(1);
        x.undo(0);
        Due.due("the stamp", x.digest(), atFirst);
        x.season();
        x.undo(0);
        Due.due("the season", x.digest(), atFirst);
        x.lots(3, 7);
        x.undo(0);
        Due.due("the lots", x.digest(), atFirst);
    }

    static void p19_undo_of_a_MARRIED_STAMP_brings_both_back() {
        RiverBureau x = Due.deltaOf("r1 m1010 a1010");
        x.leave(0);
        x.stamp(1);
        x.stamp(0);
        x.stamp(0);
        x.undo(3);
        dueOpen("both open", x, 3);
        x.undo(2);
        dueOpen("the one behind alone", x, 2);
    }

    static void p19_undo_leaves_NEEDS_and_WAITS() {
        RiverBureau x = Due.deltaOf("r1 b1310 a1010");
        x.season();
        x.need(0, 7);
        x.awaits(1, 0, 1);
        Due.due("undo(0)", x.undo(0), 1);
        Due.dueArm("the need of now", x, 0, NEED, 7);
        Due.due("the wait of now", x.awaits(1, 0, 1), 1);
    }

    static void p19_undo_leaves_kept_DELTAS_and_asked() {
        RiverBureau x = busy();
        x.undo(0);
        Due.due("kept", x.count(8), 2);
        Due.due("asked()", x.asked(), TOLD);
        Due.due("on(2)", x.on(2), 2);
    }

    // ---- 20 now

    static void p20_now_without_ARMS_is_STATE() {
        dueRefused("now()", new RiverBureau(), STATE, x -> x.now());
    }

    static void p20_now_in_SEASON_0_and_in_SEASON_60() {
        RiverBureau x = Due.deltaOf("r1 b1010");
        dueAsked("at first", x, x.now(), 0, 1);
        passSeasons(x, 60);
        dueAsked("at last", x, x.now(), 60, 1);
    }

    static void p20_now_with_none_OPEN_and_with_all() {
        RiverBureau x = Due.deltaOf("r1 a1010 a1010 a1010 a1010 a1010");
        dueAsked("none", x, x.now(), 0, 0);
        for (int i = 0; i < 5; i++) {
            x.stamp(i);
        }
        dueAsked("all", x, x.now(), 0, 31);
        dueAside("it only tells", x, 0, y -> y.now());
    }

    // ---- 21 water

    static void p21_water_of_an_ARM_that_there_is_not_is_BAD() {
        dueRefused("water(-1)", BAD, x -> x.water(-1));
        dueRefused("water(5)", BAD, x -> x.water(5));
        dueRefused("without arms", new RiverBureau(), BAD, x -> x.water(0));
    }

    static void p21_water_without_OPEN_ones_is_lost() {
        RiverBureau x = Due.deltaOf("r9 a1010 l1010 b1010");
        x.leave(2);
        Due.due("shut", x.water(0), 0);
        Due.due("shut and leaky", x.water(1), 1);
        Due.due("shut and barged", x.water(2), 0);
    }

    static void p21_water_of_one_OPEN_ARM_is_all() {
        Due.due("r1", Due.deltaOf("r1 b9010").water(0), 3);
        Due.due("r9", Due.deltaOf("r9 b1010 a9010").water(0), 27);
        Due.due("shut", Due.deltaOf("r9 b1010 a9010").water(1), 0);
    }

    private static void dueShares(String delta, int... shares) {
        RiverBureau x = Due.deltaOf(delta);
        for (int i = 0; i < shares.length; i++) {
            Due.due("share " + i + " of " + delta, x.water(i), shares[i]);
        }
    }

    static void p21_water_that_is_left_goes_1_each_by_numbers() {
        dueShares("r1 b1010 b1010 b1010 b1010 b1010", 1, 1, 1, 0, 0);
        dueShares("r8 b1010 b1010 b1010 b1010 b1010", 5, 5, 5, 5, 4);
        dueShares("r5 b1010 b1010 b1010 b1010 b1010", 3, 3, 3, 3, 3);
        dueShares("r9 b9010 b9010 b9010 b9010 b9010", 6, 6, 5, 5, 5);
        dueShares("r1 b9010 b1010", 3, 0);
        dueShares("r1 b1010 b9010", 1, 2);
    }

    static void p21_water_that_is_left_goes_to_OPEN_ones_alone() {
        dueShares("r2 a1010 b1010 a1010 b1010 b2010", 0, 2, 0, 1, 3);
        dueShares("r1 l1010 b1010 l1010 b1010", 1, 2, 1, 1);
    }

    static void p21_water_of_an_OPEN_LEAKY_one_is_its_share() {
        RiverBureau x = Due.deltaOf("r1 b1010 b1010 b1010 l1010");
        x.stamp(3);
        Due.due("none is left for it", x.water(3), 0);
        x.leave(2);
        Due.due("3 by 3", x.water(3), 1);
    }

    static void p21_water_of_a_DEAD_one() {
        RiverBureau x = Due.deltaOf("r1 s1010 l1010 b1010");
        passSeasons(x, 5);
        Due.due("both are dead", x.count(3), 2);
        Due.due("dead", x.water(0), 0);
        Due.due("dead and leaky: shut, too", x.water(1), 1);
        Due.due("the other has all", x.water(2), 3);
    }

    static void p21_water_only_tells() {
        dueAside("water(3)", busy(), 6, x -> x.water(3));
    }

    // ---- 22 keep

    static void p22_keep_in_the_first_and_the_last_place() {
        RiverBureau x = Due.deltaOf("r1 b1010");
        Due.due("keep(0)", x.keep(0), 0);
        x.season();
        Due.due("keep(2)", x.keep(2), 1);
        Due.due("kept", x.count(8), 2);
        Due.due("on(0)", x.on(0), 0);
        Due.due("on(2)", x.on(2), 1);
    }

    static void p22_keep_in_minus_1_and_in_3_is_BAD() {
        dueRefused("keep(-1)", BAD, x -> x.keep(-1));
        dueRefused("keep(3)", BAD, x -> x.keep(3));
        dueRefused("keep(LEAST)", BAD, x -> x.keep(LEAST));
        dueRefused("keep(MOST)", BAD, x -> x.keep(MOST));
    }

    static void p22_keep_without_ARMS_is_STATE_behind_BAD() {
        dueRefused("keep(0)", new RiverBureau(), STATE, x -> x.keep(0));
        dueRefused("keep(3)", new RiverBureau(), BAD, x -> x.keep(3));
    }

    static void p22_keep_with_0_and_with_60_DEEDS() {
        Due.due("0", withDeeds(0).keep(1), 0);
        Due.due("60", withDeeds(60).keep(1), 60);
    }

    static void p22_keep_over_what_was_kept() {
        RiverBureau x = Due.deltaOf("r1 b1010");
        x.keep(1);
        passSeasons(x, 2);
        Due.due("keep(1) again", x.keep(1), 2);
        Due.due("kept", x.count(8), 1);
        x.undo(0);
        Due.due("on(1)", x.on(1), 2);
        Due.due("season", x.now(), 2);
    }

    static void p22_keep_is_not_changed_by_what_comes_later() {
        RiverBureau x = Due.deltaOf("r1 b1310 a1010");
        x.season();
        x.keep(0);
        x.need(0, 9);
        x.leave(0);
        passSeasons(x, 9);
        x.undo(0);
        passSeasons(x, 2);
        Due.due("on(0)", x.on(0), 1);
        dueAsked("as it was", x, x.now(), 1, 1);
        Due.dueArm("its need", x, 0, NEED, 3);
        Due.dueArm("its harvest", x, 0, HARVESTS, 1);
    }

    static void p22_keep_leaves_asked() {
        RiverBureau x = busy();
        x.keep(0);
        Due.due("asked()", x.asked(), TOLD);
    }

    // ---- 23 on

    static void p23_on_from_minus_1_and_from_3_is_BAD() {
        dueRefused("on(-1)", BAD, x -> x.on(-1));
        dueRefused("on(3)", BAD, x -> x.on(3));
        dueRefused("without arms", new RiverBureau(), BAD, x -> x.on(3));
    }

    static void p23_on_from_a_place_that_is_missing_is_NOTHING() {
        dueFound("on(0)", NOTHING, x -> x.on(0));
        dueFound("without arms", new RiverBureau(), NOTHING, x -> x.on(0));
    }

    static void p23_on_with_60_DEEDS_and_back_to_0() {
        RiverBureau x = withDeeds(0);
        x.keep(0);
        for (int d = 0; d < 60; d++) {
            x.stamp(0);
        }
        x.keep(2);
        Due.due("on(0)", x.on(0), 0);
        dueRefused("undo(1)", x, BAD, y -> y.undo(1));
        Due.due("on(2)", x.on(2), 60);
        dueRefused("season()", x, FULL, y -> y.season());
        Due.due("undo(0)", x.undo(0), 60);
        Due.due("deeds", x.count(2), 0);
    }

    static void p23_on_brings_DEEDS_back_that_can_be_undone_one_by_one() {
        RiverBureau x = Due.deltaOf("r1 b1310 s1010 a1010");
        for (int d = 0; d < 7; d++) {
            if (d == 3) {
                x.leave(0);
            } else {
                x.season();
            }
        }
        x.keep(0);
        for (int d = 6; d >= 0; d--) {
            x.undo(0);
            for (int other = 0; other < 9; other++) {
                x.stamp(2);
            }
            x.on(0);
            Due.due("undo(" + d + ")", x.undo(d), 7 - d);
            Due.dueArm("silt of that time", x, 1, SILT, Math.min(9, 2 * (d > 3 ? d - 1 : d)));
            dueOpen("open ones of that time", x, d > 3 ? 0 : 1);
            Due.due("barges of that time", x.count(4), d > 3 ? 0 : 1);
        }
    }

    static void p23_on_brings_60_DEEDS_back_that_can_be_undone_from_the_first() {
        RiverBureau x = withDeeds(60);
        x.keep(2);
        x.undo(0);
        passSeasons(x, 60);
        Due.due("on(2)", x.on(2), 60);
        Due.due("undo(59)", x.undo(59), 1);
        dueAsked("59 stamps", x, x.now(), 0, 3);
        Due.due("undo(0)", x.undo(0), 59);
        dueAsked("none", x, x.now(), 0, 2);
    }

    static void p23_on_brings_NEEDS_back_but_leaves_WAITS() {
        RiverBureau x = Due.deltaOf("r1 b1310 a1010 w10");
        x.keep(0);
        x.need(0, 4);
        x.awaits(1, 0, 0);
        x.awaits(0, 1, 1);
        Due.due("3 for 4", x.season(), 1);
        x.on(0);
        Due.dueArm("the need that was kept", x, 0, NEED, 3);
        Due.due("3 for 3", x.season(), 2);
        Due.due("the wait that went", x.awaits(1, 0, 0), 0);
        Due.due("the wait that came", x.awaits(0, 1, 0), 1);
    }

    static void p23_on_leaves_what_is_kept() {
        RiverBureau x = busy();
        Due.due("on(1)", x.on(1), 0);
        Due.due("kept", x.count(8), 2);
        Due.due("on(1) again", x.on(1), 0);
        Due.due("on(2)", x.on(2), 2);
    }

    static void p23_on_brings_a_DEAD_one_and_a_living_one_back() {
        RiverBureau x = Due.deltaOf("r1 s1010");
        passSeasons(x, 4);
        x.keep(0);
        x.season();
        x.keep(1);
        x.on(0);
        Due.due("living", x.count(3), 0);
        Due.due("it may be stamped", x.stamp(0), 1);
        x.on(1);
        Due.due("dead", x.count(3), 1);
        dueRefused("it may not be stamped", x, STATE, y -> y.stamp(0));
    }

    static void p23_on_leaves_asked() {
        RiverBureau x = busy();
        x.on(1);
        Due.due("asked()", x.asked(), TOLD);
    }
}
