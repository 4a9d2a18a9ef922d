/** Boundary cases of promises 11 to 15: deltas, arms, marks, needs, waits. */
public final class EdgesOfDeltasTest extends Edges {
    private static final int KIND = 0, WIDTH = 1, NEED = 2, SALT = 4, SILT = 5, HARVESTS = 6, MAY_BE = 7;

    public static void main(String[] args) throws ReflectiveOperationException {
        runCases(EdgesOfDeltasTest.class, 11, 15);
    }

    // ---- 11 delta

    static void p11_delta_of_1_and_of_5_ARMS() {
        RiverBureau x = new RiverBureau();
        Due.write(x, 0, "r1a1010");
        Due.write(x, 3, "r9a1010a1010a1010a1010a1010");
        Due.due("delta(0)", x.delta(0), 1);
        Due.due("its arms", x.count(0), 1);
        Due.due("delta(3)", x.delta(3), 5);
        Due.due("its arms", x.count(0), 5);
    }

    static void p11_delta_of_a_TEXT_of_60_bytes() {
        RiverBureau x = Due.deltaOf("r1a1010a1010a1010a1010a1010w01w02w03w04w10w12w13w14         ");
        Due.due("arms", x.count(0), 5);
        x.stalled();
        Due.due("eight waits", x.asked(), 8);
    }

    static void p11_delta_by_a_TEXT_with_a_FAULT_is_STATE() {
        dueRefused("an empty TEXT", STATE, x -> x.delta(1));
        dueRefused("blanks alone", STATE, x -> x.delta(2));
        RiverBureau x = busy();
        Due.write(x, 3, "r9b9910b9910w0");
        dueRefused("a FAULT at the very end", x, STATE, y -> y.delta(3));
        Due.write(x, 3, "r9b9910b9910 w01 w01");
        dueRefused("a FAULT of a WAIT", x, STATE, y -> y.delta(3));
    }

    static void p11_delta_by_a_missing_TEXT_is_NOTHING() {
        dueFound("delta(3)", NOTHING, x -> x.delta(3));
    }

    static void p11_delta_by_text_minus_1_and_4_is_BAD() {
        dueRefused("delta(-1)", BAD, x -> x.delta(-1));
        dueRefused("delta(4)", BAD, x -> x.delta(4));
    }

    static void p11_delta_anew_begins_in_SEASON_0_without_DEEDS() {
        RiverBureau x = Due.deltaOf("r1 b1310 s1010 t1110");
        passSeasons(x, 59);
        x.leave(0);
        Due.due("60 deeds", x.count(2), 60);
        Due.due("delta(0)", x.delta(0), 3);
        Due.due("season", x.now(), 0);
        Due.due("deeds", x.count(2), 0);
        Due.due("dead ones", x.count(3), 0);
        Due.due("barges", x.count(4), 1);
        Due.due("harvests", x.count(9), 0);
        for (int i = 0; i < 3; i++) {
            Due.dueArm("anew", x, i, SALT, 0);
            Due.dueArm("anew", x, i, SILT, 0);
            Due.dueArm("anew", x, i, HARVESTS, 0);
        }
        dueRefused("undo(1)", x, BAD, y -> y.undo(1));
    }

    static void p11_delta_anew_has_NEEDS_and_WAITS_of_its_TEXT() {
        RiverBureau x = Due.deltaOf("r1 a1210 a1310 w01");
        x.need(0, 9);
        x.awaits(0, 1, 0);
        x.awaits(1, 0, 1);
        x.delta(0);
        Due.dueArm("anew", x, 0, NEED, 2);
        Due.due("the wait of the text", x.awaits(0, 1, 0), 1);
        Due.due("no other", x.awaits(1, 0, 0), 0);
    }

    static void p11_kept_DELTAS_go_with_a_new_one() {
        RiverBureau x = busy();
        x.keep(0);
        Due.due("three are kept", x.count(8), 3);
        x.delta(0);
        Due.due("none is kept", x.count(8), 0);
        for (int k = 0; k <= 2; k++) {
            int place = k;
            dueFound("on(" + k + ")", x, NOTHING, y -> y.on(place));
        }
    }

    static void p11_smaller_DELTA_has_none_of_the_ARMS_and_WAITS_ahead() {
        RiverBureau x = busy();
        Due.write(x, 3, "r1a1010");
        Due.due("delta(3)", x.delta(3), 1);
        dueRefused("arm(1, 0)", x, BAD, y -> y.arm(1, 0));
        Due.due("no barges", x.count(4), 0);
        Due.due("no silty ones", x.count(5), 0);
        x.stalled();
        Due.due("no waits", x.asked(), 0);
        Due.due("its stamp", x.stamp(0), 1);
    }

    static void p11_larger_DELTA_has_none_of_the_WAITS_ahead() {
        RiverBureau x = Due.deltaOf("r1a1010a1010w01w10");
        Due.write(x, 1, "r1a1010a1010a1010");
        x.delta(1);
        x.stalled();
        Due.due("no waits", x.asked(), 0);
    }

    static void p11_river_brings_3_to_27() {
        Due.due("r1", Due.deltaOf("r1a1010").count(1), 3);
        Due.due("r9", Due.deltaOf("r9a1010").count(1), 27);
    }

    static void p11_all_are_SHUT_at_first_but_BARGED_and_MARRIED_ones() {
        dueOpen("atsb", Due.deltaOf("r1a1010t1010s1010b1010"), 8);
        dueOpen("lm", Due.deltaOf("r1l1010m1010"), 2);
    }

    static void p11_delta_leaves_asked_ROWS_TEXTS_and_chances() {
        RiverBureau x = busy();
        long upper = x.upper();
        long lower = x.lower();
        x.delta(0);
        Due.due("asked()", x.asked(), TOLD);
        Due.due("upper()", x.upper(), upper);
        Due.due("lower()", x.lower(), lower);
        Due.due("rows", x.count(6), 3);
        Due.due("texts", x.count(7), 3);
        Due.due("findings", x.findings(NOUGHT), 1);
    }

    // ---- 12 arm

    static void p12_arm_tells_0_to_7_of_the_first_and_the_last_ARM() {
        RiverBureau x = Due.deltaOf("r9 t9165 a1010 a1010 a1010 m1910");
        int[] first = {1, 9, 1, 0, 0, 0, 0, 0};
        int[] last = {5, 1, 9, 1, 0, 0, 0, 0};
        for (int what = 0; what <= 7; what++) {
            Due.dueArm("first", x, 0, what, first[what]);
            Due.dueArm("last", x, 4, what, last[what]);
        }
    }

    static void p12_arm_tells_nothing_below_0_or_above_7() {
        dueRefused("arm(0, -1)", BAD, x -> x.arm(0, -1));
        dueRefused("arm(0, 8)", BAD, x -> x.arm(0, 8));
        dueRefused("arm(0, LEAST)", BAD, x -> x.arm(0, LEAST));
        dueRefused("arm(0, MOST)", BAD, x -> x.arm(0, MOST));
    }

    static void p12_arm_minus_1_and_as_many_as_ARMS_is_BAD() {
        dueRefused("arm(-1, 0)", BAD, x -> x.arm(-1, 0));
        dueRefused("arm(5, 0)", BAD, x -> x.arm(5, 0));
        dueRefused("arm(1, 0) of one", Due.deltaOf("r1a1010"), BAD, x -> x.arm(1, 0));
    }

    static void p12_arm_without_ARMS_is_BAD() {
        dueRefused("arm(0, 0)", new RiverBureau(), BAD, x -> x.arm(0, 0));
    }

    static void p12_KINDS_by_their_letters() {
        String letters = "atsblm";
        for (int kind = 0; kind <= 5; kind++) {
            Due.dueArm("kind", Due.deltaOf("r1" + letters.charAt(kind) + "1010"), 0, KIND, kind);
        }
    }

    static void p12_WIDTH_1_and_9() {
        RiverBureau x = Due.deltaOf("r1 a1010 a9010");
        Due.dueArm("narrow", x, 0, WIDTH, 1);
        Due.dueArm("wide", x, 1, WIDTH, 9);
    }

    static void p12_SALT_is_9_at_most() {
        RiverBureau x = Due.deltaOf("r1 b1410 t1110");
        int[] tidal = {2, 4, 6, 8, 9, 9, 9, 9, 9, 9, 9};
        for (int s = 0; s <= 10; s++) {
            x.season();
            Due.dueArm("season " + s, x, 0, SALT, Math.min(9, s + 1));
            Due.dueArm("season " + s, x, 1, SALT, tidal[s]);
        }
    }

    static void p12_SALT_is_0_at_least() {
        RiverBureau x = Due.deltaOf("r1 b1310");
        x.season();
        Due.dueArm("water enough", x, 0, SALT, 0);
        x.need(0, 4);
        x.season();
        x.need(0, 3);
        x.season();
        Due.dueArm("1 less", x, 0, SALT, 0);
        x.season();
        Due.dueArm("none less", x, 0, SALT, 0);
    }

    static void p12_SALT_of_each_ARM_from_9_to_0_leaves_the_others_at_9() {
        for (int i = 0; i < 5; i++) {
            RiverBureau x = Due.deltaOf("r1 b1910 b1910 b1910 b1910 b1910");
            passSeasons(x, 9);
            x.need(i, 0);
            for (int s = 1; s <= 10; s++) {
                x.season();
                for (int j = 0; j < 5; j++) {
                    Due.dueArm("arm " + i + " alone", x, j, SALT, i == j ? Math.max(0, 9 - s) : 9);
                }
            }
        }
    }

    static void p12_SALT_of_each_ARM_from_0_to_9_leaves_the_others_at_0() {
        for (int i = 0; i < 5; i++) {
            RiverBureau x = Due.deltaOf("r1 b1010 b1010 b1010 b1010 b1010");
            x.need(i, 9);
            for (int s = 1; s <= 10; s++) {
                x.season();
                for (int j = 0; j < 5; j++) {
                    Due.dueArm("arm " + i + " alone", x, j, SALT, i == j ? Math.min(9, s) : 0);
                }
            }
        }
    }

    static void p12_SILT_of_each_ARM_from_8_to_0_leaves_the_others_at_9() {
        for (int i = 0; i < 5; i++) {
            RiverBureau x = Due.deltaOf("r1 a1010 a1010 a1010 a1010 a1010");
            passSeasons(x, 8);
            x.stamp(i);
            for (int s = 1; s <= 9; s++) {
                x.season();
                for (int j = 0; j < 5; j++) {
                    Due.dueArm("arm " + i + " alone", x, j, SILT, i == j ? Math.max(0, 8 - s) : 9);
                }
            }
        }
    }

    static void p12_SILT_is_9_at_most_and_stays_so() {
        RiverBureau x = Due.deltaOf("r1 a1010 s1010");
        passSeasons(x, 8);
        Due.dueArm("8 seasons", x, 0, SILT, 8);
        Due.dueArm("10 is 9", x, 1, SILT, 9);
        x.season();
        Due.dueArm("9 seasons", x, 0, SILT, 9);
        x.season();
        Due.dueArm("it stays so", x, 0, SILT, 9);
        Due.dueArm("it stays so", x, 1, SILT, 9);
    }

    static void p12_SILT_is_0_at_least() {
        RiverBureau x = Due.deltaOf("r1 b1010");
        x.season();
        Due.dueArm("open", x, 0, SILT, 0);
    }

    static void p12_HARVESTS_of_60_SEASONS() {
        RiverBureau x = Due.deltaOf("r9 b1010 b1010 b1010 b1010 b1010");
        passSeasons(x, 60);
        for (int i = 0; i < 5; i++) {
            Due.dueArm("60 seasons", x, i, HARVESTS, 60);
        }
    }

    static void p12_HARVESTS_of_each_ARM_leave_those_of_others_at_0() {
        for (int i = 0; i < 5; i++) {
            RiverBureau x = Due.deltaOf("r1 b1910 b1910 b1910 b1910 b1910");
            x.need(i, 0);
            passSeasons(x, 60);
            for (int j = 0; j < 5; j++) {
                Due.dueArm("arm " + i + " alone", x, j, HARVESTS, i == j ? 60 : 0);
            }
        }
    }

    static void p12_may_be_STAMPED_as_the_YEAR_wraps_around() {
        for (int year = 1; year <= 6; year++) {
            for (int day = 0; day < year; day++) {
                RiverBureau x = Due.deltaOf("r1 a10" + year + day);
                for (int season = 0; season <= 13; season++) {
                    boolean its = season % year == day;
                    Due.dueArm("year " + year + ", season " + season, x, 0, MAY_BE, its ? 1 : 0);
                    if (season == day) {
                        x.stamp(0);
                    }
                    x.season();
                }
            }
        }
    }

    static void p12_may_not_be_STAMPED_if_DEAD() {
        RiverBureau x = Due.deltaOf("r1 s1010");
        passSeasons(x, 4);
        Due.dueArm("silt 8", x, 0, MAY_BE, 1);
        x.season();
        Due.dueArm("silt 9", x, 0, MAY_BE, 0);
    }

    static void p12_may_not_be_STAMPED_if_OPEN_and_its_BARGE_is_there() {
        RiverBureau x = Due.deltaOf("r1 b1010 m1010");
        Due.dueArm("barged", x, 0, MAY_BE, 0);
        Due.dueArm("married", x, 1, MAY_BE, 0);
        x.leave(0);
        x.leave(1);
        Due.dueArm("its barge gone", x, 0, MAY_BE, 1);
        Due.dueArm("its barge gone", x, 1, MAY_BE, 1);
        x.stamp(0);
        Due.dueArm("open without a barge", x, 0, MAY_BE, 1);
    }

    static void p12_may_not_be_STAMPED_if_it_WAITS_for_a_SHUT_ARM() {
        RiverBureau x = Due.deltaOf("r1 a1010 b1010 a1010 w02 w01");
        Due.dueArm("of two, one is shut", x, 0, MAY_BE, 0);
        x.stamp(2);
        Due.dueArm("both are open", x, 0, MAY_BE, 1);
        x.leave(1);
        Due.dueArm("the other is shut", x, 0, MAY_BE, 0);
        x.awaits(0, 1, 0);
        Due.dueArm("it waits no more", x, 0, MAY_BE, 1);
        Due.dueArm("none waits the other way round", x, 2, MAY_BE, 1);
    }

    static void p12_may_not_be_STAMPED_if_it_WAITS_for_a_DEAD_ARM() {
        RiverBureau x = Due.deltaOf("r1 a1010 s1010 w01");
        x.awaits(0, 1, 0);
        x.stamp(0);
        passSeasons(x, 5);
        x.awaits(0, 1, 1);
        Due.dueArm("the other is dead", x, 0, MAY_BE, 0);
    }

    static void p12_may_be_STAMPED_is_told_with_60_DEEDS_too() {
        RiverBureau x = Due.deltaOf("r1 a1010");
        for (int d = 0; d < 60; d++) {
            x.stamp(0);
        }
        Due.dueArm("60 deeds", x, 0, MAY_BE, 1);
        dueRefused("stamp(0)", x, FULL, y -> y.stamp(0));
    }

    static void p12_arm_leaves_all_as_it_was() {
        for (int what = 0; what <= 7; what++) {
            int which = what;
            dueAside("arm(4, " + what + ")", busy(), 1, x -> x.arm(4, which));
        }
    }

    // ---- 13 mark

    static void p13_mark_of_every_KIND_by_every_KIND() {
        String letters = "atsblm";
        int[][] of = {{}, {1}, {2}, {3}, {2, 4}, {3, 5}};
        for (int kind = 0; kind <= 5; kind++) {
            for (int as = 1; as <= 5; as++) {
                RiverBureau x = Due.deltaOf("r1" + letters.charAt(kind) + "1010");
                int asKind = as;
                if (java.util.Arrays.binarySearch(of[kind], as) >= 0) {
                    Due.due("it is one", x.mark(0, as) != FINDING ? 1 : 0, 1);
                    Due.due("no finding", x.finding(), 0);
                } else {
                    dueFound("kind " + kind + " by " + as, x, UNLIKE, y -> y.mark(0, asKind));
                }
            }
        }
    }

    static void p13_mark_by_KIND_0_and_6_is_BAD() {
        dueRefused("mark(0, 0)", BAD, x -> x.mark(0, 0));
        dueRefused("mark(0, 6)", BAD, x -> x.mark(0, 6));
        dueRefused("mark(0, -1)", BAD, x -> x.mark(0, -1));
        dueRefused("mark(0, MOST)", BAD, x -> x.mark(0, MOST));
        dueRefused("mark(0, LEAST)", BAD, x -> x.mark(0, LEAST));
    }

    static void p13_mark_of_an_ARM_that_there_is_not_is_BAD() {
        dueRefused("mark(-1, 1)", BAD, x -> x.mark(-1, 1));
        dueRefused("mark(5, 1)", BAD, x -> x.mark(5, 1));
        dueRefused("without arms", new RiverBureau(), BAD, x -> x.mark(0, 1));
    }

    static void p13_TIDAL_mark_for_each_SALT() {
        RiverBureau x = Due.deltaOf("r1 t1110");
        int[] needs = {1, 0, 1, 1, 0, 1, 1, 1};
        int[] salts = {2, 1, 3, 5, 4, 6, 8, 9};
        int[] marks = {2, 2, 1, 0, 1, 0, 0, 0};
        Due.due("salt 0", x.mark(0, 1), 3);
        for (int s = 0; s < needs.length; s++) {
            x.need(0, needs[s]);
            x.season();
            Due.dueArm("tidal", x, 0, SALT, salts[s]);
            Due.due("salt " + salts[s], x.mark(0, 1), marks[s]);
        }
    }

    static void p13_TIDAL_mark_is_what_would_come() {
        RiverBureau x = Due.deltaOf("r1 t1110");
        x.need(0, 9);
        passSeasons(x, 2);
        Due.dueArm("one season ahead", x, 0, SALT, 4);
        Due.due("mark", x.mark(0, 1), 1);
        x.season();
        Due.dueArm("above 4", x, 0, SALT, 6);
        Due.due("it is", x.mark(0, 1), 0);
    }

    static void p13_SILTY_mark_for_each_SILT() {
        for (String letter : new String[] {"s", "l"}) {
            RiverBureau even = Due.deltaOf("r1 " + letter + "1010");
            for (int s = 0; s <= 5; s++) {
                Due.due(letter + " even silt", even.mark(0, 2), 5 - s);
                even.season();
            }
            Due.due(letter + " still dead", even.mark(0, 2), 0);
            RiverBureau odd = Due.deltaOf("r1 " + letter + "1010");
            odd.season();
            odd.stamp(0);
            odd.season();
            odd.stamp(0);
            for (int s = 0; s <= 4; s++) {
                Due.due(letter + " odd silt", odd.mark(0, 2), 4 - s);
                odd.season();
            }
        }
    }

    static void p13_SILTY_mark_of_an_OPEN_one_is_as_if_it_were_SHUT() {
        RiverBureau x = Due.deltaOf("r1 s1010");
        x.stamp(0);
        Due.due("open, silt 0", x.mark(0, 2), 5);
    }

    static void p13_BARGED_mark_with_and_without_its_BARGE() {
        RiverBureau x = Due.deltaOf("r1 b1010 m1010");
        Due.due("barged", x.mark(0, 3), 1);
        Due.due("married", x.mark(1, 3), 1);
        x.leave(0);
        x.leave(1);
        Due.due("barged then", x.mark(0, 3), 0);
        Due.due("married then", x.mark(1, 3), 0);
        x.stamp(0);
        Due.due("open, without it", x.mark(0, 3), 0);
        x.stamp(0);
        passSeasons(x, 9);
        Due.due("dead", x.count(3), 2);
        Due.due("dead, without it", x.mark(0, 3), 0);
    }

    static void p13_LEAKY_mark_SHUT_OPEN_and_DEAD() {
        RiverBureau x = Due.deltaOf("r1 b1010 b1010 b1010 l1010");
        Due.due("shut: 1 from nowhere", x.mark(3, 4), 1);
        x.stamp(3);
        Due.due("open: 3 by 4, and none is left for it", x.mark(3, 4), 0);
        x.leave(0);
        Due.due("open: 3 by 3", x.mark(3, 4), 1);
        x.leave(1);
        x.leave(2);
        Due.due("open alone", x.mark(3, 4), 3);
        x.stamp(3);
        passSeasons(x, 5);
        Due.due("dead", x.count(3), 1);
        Due.due("dead: shut, too", x.mark(3, 4), 1);
    }

    static void p13_MARRIED_mark_without_an_ARM_behind_is_NONE() {
        Due.due("the only one", Due.deltaOf("r1 m1010").mark(0, 5), NONE);
        Due.due("the last of five", Due.deltaOf("r1 a1010 a1010 a1010 a1010 m1010").mark(4, 5), NONE);
    }

    static void p13_MARRIED_mark_with_a_BARGE_behind_is_NONE() {
        RiverBureau x = Due.deltaOf("r1 m1010 b1010");
        Due.due("its barge is there", x.mark(0, 5), NONE);
        x.leave(1);
        Due.due("its barge is gone", x.mark(0, 5), 1);
        x.stamp(1);
        Due.due("open, its barge is gone", x.mark(0, 5), 1);
    }

    static void p13_MARRIED_mark_with_a_DEAD_one_behind_is_NONE() {
        RiverBureau x = Due.deltaOf("r1 m1010 s1010");
        passSeasons(x, 4);
        Due.due("alive", x.mark(0, 5), 1);
        x.season();
        Due.due("dead", x.mark(0, 5), NONE);
    }

    static void p13_MARRIED_mark_whether_it_may_be_STAMPED_or_not() {
        RiverBureau x = Due.deltaOf("r1 m1021 a1010 w01");
        Due.due("its barge is there", x.mark(0, 5), 1);
        x.leave(0);
        Due.due("not its day, it waits", x.mark(0, 5), 1);
        x.awaits(0, 1, 0);
        x.season();
        Due.due("it may be", x.mark(0, 5), 1);
        x.stamp(1);
        passSeasons(x, 8);
        Due.due("it is dead", x.count(3), 1);
        Due.due("it is dead itself", x.mark(0, 5), 1);
    }

    static void p13_mark_leaves_all_as_it_was() {
        dueAside("tidal", busy(), 2, x -> x.mark(1, 1));
        dueAside("married", busy(), NONE, x -> x.mark(4, 5));
        RiverBureau x = busy();
        x.mark(1, 1);
        Due.due("asked() stays", x.asked(), TOLD);
    }

    // ---- 14 need

    static void p14_need_of_0_and_of_9() {
        RiverBureau x = Due.deltaOf("r1 a1410 a1510");
        Due.due("need(0, 0)", x.need(0, 0), 4);
        Due.due("need(1, 9)", x.need(1, 9), 5);
        Due.due("need(0, 9)", x.need(0, 9), 0);
        Due.due("need(1, 0)", x.need(1, 0), 9);
    }

    static void p14_need_of_minus_1_and_of_10_is_BAD() {
        dueRefused("need(0, -1)", BAD, x -> x.need(0, -1));
        dueRefused("need(0, 10)", BAD, x -> x.need(0, 10));
        dueRefused("need(0, LEAST)", BAD, x -> x.need(0, LEAST));
        dueRefused("need(0, MOST)", BAD, x -> x.need(0, MOST));
    }

    static void p14_need_of_an_ARM_that_there_is_not_is_BAD() {
        dueRefused("need(-1, 0)", BAD, x -> x.need(-1, 0));
        dueRefused("need(5, 0)", BAD, x -> x.need(5, 0));
        dueRefused("without arms", new RiverBureau(), BAD, x -> x.need(0, 0));
    }

    static void p14_need_is_no_DEED_and_leaves_asked() {
        RiverBureau x = busy();
        x.need(4, 9);
        Due.due("deeds", x.count(2), 2);
        Due.due("asked()", x.asked(), TOLD);
    }

    static void p14_need_that_is_just_met_and_just_not() {
        RiverBureau x = Due.deltaOf("r1 b1210");
        x.need(0, 4);
        Due.due("3 for 4", x.season(), 0);
        x.need(0, 3);
        Due.due("3 for 3", x.season(), 1);
    }

    static void p14_need_holds_at_once_for_all_that_look_ahead() {
        RiverBureau x = Due.deltaOf("r1 b1310");
        x.row(0, 1);
        Due.due("a plan of one season", x.run(0), 1);
        Due.due("best", x.best(1, 1), 1);
        Due.due("fewest", x.fewest(0, 1, 1), 0);
        Due.due("fits", x.fits(0), 2);
        x.need(0, 4);
        Due.due("a plan then", x.run(0), 0);
        Due.due("best then", x.best(1, 1), 0);
        Due.due("fewest then", x.fewest(0, 1, 1), NONE);
        Due.due("fits then", x.fits(0), 0);
        x.odds(0);
        Due.due("odds then", x.upper(), 0);
    }

    static void p14_need_with_60_DEEDS() {
        RiverBureau x = Due.deltaOf("r1 b1310");
        passSeasons(x, 60);
        Due.due("need(0, 1)", x.need(0, 1), 3);
        Due.dueArm("it is", x, 0, NEED, 1);
    }

    // ---- 15 awaits

    static void p15_awaits_by_0_and_by_1() {
        RiverBureau x = Due.deltaOf("r1 a1010 a1010 a1010 a1010 a1010");
        Due.due("awaits(4, 0, 1)", x.awaits(4, 0, 1), 0);
        Due.due("it waits already", x.awaits(4, 0, 1), 1);
        Due.due("awaits(4, 0, 0)", x.awaits(4, 0, 0), 1);
        Due.due("it waits no more", x.awaits(4, 0, 0), 0);
        Due.due("not the other way round", x.awaits(0, 4, 0), 0);
    }

    static void p15_awaits_by_minus_1_and_by_2_is_BAD() {
        dueRefused("awaits(0, 1, -1)", BAD, x -> x.awaits(0, 1, -1));
        dueRefused("awaits(0, 1, 2)", BAD, x -> x.awaits(0, 1, 2));
        dueRefused("awaits(1, 0, 2)", BAD, x -> x.awaits(1, 0, 2));
        dueRefused("awaits(0, 1, LEAST)", BAD, x -> x.awaits(0, 1, LEAST));
    }

    static void p15_awaits_itself_is_BAD() {
        for (int i = 0; i < 5; i++) {
            int arm = i;
            dueRefused("awaits(" + i + ", " + i + ", 1)", BAD, x -> x.awaits(arm, arm, 1));
            dueRefused("awaits(" + i + ", " + i + ", 0)", BAD, x -> x.awaits(arm, arm, 0));
        }
    }

    static void p15_awaits_of_or_for_an_ARM_that_there_is_not_is_BAD() {
        dueRefused("awaits(-1, 0, 1)", BAD, x -> x.awaits(-1, 0, 1));
        dueRefused("awaits(5, 0, 1)", BAD, x -> x.awaits(5, 0, 1));
        dueRefused("awaits(0, -1, 1)", BAD, x -> x.awaits(0, -1, 1));
        dueRefused("awaits(0, 5, 1)", BAD, x -> x.awaits(0, 5, 1));
        dueRefused("without arms", new RiverBureau(), BAD, x -> x.awaits(0, 1, 1));
    }

    static void p15_awaits_has_room_for_more_than_the_8_of_a_TEXT() {
        RiverBureau x = Due.deltaOf("r1 a1010 a1010 a1010 a1010 a1010");
        for (int i = 0; i < 5; i++) {
            for (int j = 0; j < 5; j++) {
                if (i != j) {
                    Due.due("awaits(" + i + ", " + j + ", 1)", x.awaits(i, j, 1), 0);
                }
            }
        }
        x.stalled();
        Due.due("all wait for all", x.asked(), 20);
    }

    static void p15_awaits_is_no_DEED_and_leaves_asked() {
        RiverBureau x = busy();
        x.awaits(4, 0, 1);
        Due.due("deeds", x.count(2), 2);
        Due.due("asked()", x.asked(), TOLD);
    }

    static void p15_awaits_leaves_the_other_WAITS() {
        RiverBureau x = Due.deltaOf("r1 a1010 a1010 a1010 w01 w02");
        x.awaits(0, 1, 0);
        Due.due("the other one", x.awaits(0, 2, 0), 1);
    }
}
