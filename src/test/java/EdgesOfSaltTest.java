/** Boundary cases of promises 29 and 30: who opened, by the salt. */
public final class EdgesOfSaltTest extends Edges {
    public static void main(String[] args) throws ReflectiveOperationException {
        runCases(EdgesOfSaltTest.class, 29, 30);
    }

    private static void dueFits(String when, RiverBureau x, int many, int first, int opened) {
        dueAsked(when, x, x.fits(0), many, first);
        Due.due(when + ": opened(0)", x.opened(0), opened);
    }

    // ---- 29 fits

    static void p29_fits_of_row_minus_1_and_6_is_BAD_ahead_of_STATE() {
        dueRefused("fits(-1)", BAD, x -> x.fits(-1));
        dueRefused("fits(6)", BAD, x -> x.fits(6));
        dueRefused("without arms", new RiverBureau(), BAD, x -> x.fits(6));
    }

    static void p29_fits_without_ARMS_is_STATE_ahead_of_NOTHING_and_SIZE() {
        dueRefused("no row", new RiverBureau(), STATE, x -> x.fits(0));
        RiverBureau x = new RiverBureau();
        x.row(0, 0);
        dueRefused("an empty row", x, STATE, y -> y.fits(0));
    }

    static void p29_fits_of_a_missing_ROW_is_NOTHING() {
        dueFound("fits(3)", NOTHING, x -> x.fits(3));
    }

    static void p29_fits_of_one_too_few_and_one_too_many_is_SIZE() {
        for (int n : new int[] {0, 4, 6, 40}) {
            RiverBureau x = busy();
            x.row(4, n);
            dueFound("a row of " + n + " for 5 arms", x, SIZE, y -> y.fits(4));
        }
    }

    static void p29_fits_by_no_set_tells_NONE() {
        RiverBureau x = Due.deltaOf("r1 a1310");
        Due.fill(x, 0, 5);
        dueAsked("fits(0)", x, x.fits(0), 0, NONE);
    }

    static void p29_fits_by_all_32_sets() {
        RiverBureau x = Due.deltaOf("r1 a1010 a1010 a1010 a1010 a1010");
        x.row(0, 5);
        dueAsked("fits(0)", x, x.fits(0), 32, 0);
    }

    static void p29_fits_by_the_last_set_alone() {
        RiverBureau x = Due.deltaOf("r5 a1310 a1310 a1310 a1310 a1310");
        x.row(0, 5);
        dueAsked("fits(0)", x, x.fits(0), 1, 31);
    }

    static void p29_fits_by_the_empty_set_alone() {
        RiverBureau x = Due.deltaOf("r9 a1910");
        Due.fill(x, 0, 1);
        dueAsked("fits(0)", x, x.fits(0), 1, 0);
    }

    static void p29_fits_of_one_ARM_has_two_sets() {
        RiverBureau x = Due.deltaOf("r1 a1010");
        x.row(0, 1);
        dueAsked("fits(0)", x, x.fits(0), 2, 0);
    }

    static void p29_fits_counts_sets_alike_but_for_what_may_not_be_STAMPED() {
        RiverBureau x = Due.deltaOf("r1 a1310 a1021");
        Due.fill(x, 0, 0, 0);
        dueAsked("with 1 and without", x, x.fits(0), 2, 1);
    }

    static void p29_fits_with_SALT_that_can_not_be() {
        for (int salt : new int[] {-1, 10, LEAST, MOST, 16}) {
            RiverBureau x = Due.deltaOf("r1 a1010");
            Due.fill(x, 0, salt);
            dueAsked("salt " + salt, x, x.fits(0), 0, NONE);
        }
    }

    static void p29_fits_with_SALT_of_9_and_of_0() {
        RiverBureau x = Due.deltaOf("r1 b1410 b1010");
        passSeasons(x, 9);
        Due.fill(x, 0, 9, 0);
        dueAsked("9 at most, 0 at least", x, x.fits(0), 4, 0);
        Due.fill(x, 0, 10, 0);
        dueAsked("no 10", x, x.fits(0), 0, NONE);
    }

    static void p29_fits_looks_at_every_ARM() {
        RiverBureau x = Due.deltaOf("r1 a1010 a1010 a1010 a1010 a1010");
        for (int i = 0; i < 5; i++) {
            x.row(0, 5);
            x.lay(0, i, 1);
            dueAsked("arm " + i + " does not fit", x, x.fits(0), 0, NONE);
        }
    }

    static void p29_fits_by_SALT_behind_the_SEASON() {
        RiverBureau x = Due.deltaOf("r1 t1110");
        x.row(0, 1);
        dueAsked("opened: 0 stays 0", x, x.fits(0), 1, 1);
        Due.fill(x, 0, 2);
        dueAsked("shut: 2 for a tidal one", x, x.fits(0), 1, 0);
        Due.fill(x, 0, 1);
        dueAsked("no 1", x, x.fits(0), 0, NONE);
    }

    static void p29_fits_is_aside() {
        RiverBureau x = busy();
        x.row(4, 5);
        dueAside("fits(4)", x, 0, y -> y.fits(4));
    }

    static void p29_fits_with_60_DEEDS() {
        RiverBureau x = Due.deltaOf("r1 b1310 a1310");
        passSeasons(x, 60);
        x.row(0, 2);
        Due.fill(x, 0, 0, 9);
        dueAsked("the dead one can not be stamped", x, x.fits(0), 4, 0);
    }

    // ---- 30 opened

    static void p30_opened_of_row_minus_1_and_6_is_BAD_ahead_of_STATE() {
        dueRefused("opened(-1)", BAD, x -> x.opened(-1));
        dueRefused("opened(6)", BAD, x -> x.opened(6));
        dueRefused("without arms", new RiverBureau(), BAD, x -> x.opened(6));
    }

    static void p30_opened_without_ARMS_is_STATE_ahead_of_NOTHING_and_SIZE() {
        dueRefused("no row", new RiverBureau(), STATE, x -> x.opened(0));
        RiverBureau x = new RiverBureau();
        x.row(0, 0);
        dueRefused("an empty row", x, STATE, y -> y.opened(0));
    }

    static void p30_opened_of_a_missing_ROW_is_NOTHING() {
        dueFound("opened(3)", NOTHING, x -> x.opened(3));
    }

    static void p30_opened_of_one_too_few_and_one_too_many_is_SIZE() {
        for (int n : new int[] {0, 4, 6, 40}) {
            RiverBureau x = busy();
            x.row(4, n);
            dueFound("a row of " + n + " for 5 arms", x, SIZE, y -> y.opened(4));
        }
    }

    static void p30_opened_where_none_fits_is_0() {
        RiverBureau x = Due.deltaOf("r1 a1310");
        Due.fill(x, 0, 5);
        Due.due("opened(0)", x.opened(0), 0);
    }

    static void p30_opened_by_all_ARMS() {
        RiverBureau x = Due.deltaOf("r5 a1310 a1310 a1310 a1310 a1310");
        x.row(0, 5);
        dueFits("each was stamped", x, 1, 31, 31);
    }

    static void p30_opened_by_one_ARM_alone_whichever() {
        for (int i = 0; i < 5; i++) {
            RiverBureau x = Due.deltaOf("r1 a1310 a1310 a1310 a1310 a1310");
            Due.fill(x, 0, 1, 1, 1, 1, 1);
            x.lay(0, i, 0);
            dueFits("arm " + i, x, 1, 1 << i, 1 << i);
        }
    }

    static void p30_opened_by_the_empty_set_is_0() {
        RiverBureau x = Due.deltaOf("r9 a1910");
        Due.fill(x, 0, 1);
        dueFits("none was stamped", x, 1, 0, 0);
    }

    static void p30_opened_by_each_of_the_sets_not_by_some() {
        RiverBureau x = Due.deltaOf("r1 a1310 a1010");
        Due.fill(x, 0, 1, 0);
        dueFits("none, 1 alone, or both", x, 3, 0, 0);
        Due.fill(x, 0, 0, 0);
        dueFits("0 alone", x, 1, 1, 1);
        RiverBureau y = Due.deltaOf("r2 a1310 a1010");
        Due.fill(y, 0, 0, 0);
        dueFits("0, with 1 or without", y, 2, 1, 1);
    }

    static void p30_opened_tells_no_ARM_that_was_in_the_set_but_not_STAMPED() {
        RiverBureau x = Due.deltaOf("r1 a1310 a1021 b1010");
        Due.fill(x, 0, 1, 0, 0);
        dueFits("no stamp, whatever the set has of 1 and 2", x, 8, 0, 0);
        x.awaits(0, 1, 1);
        dueFits("0 waits", x, 8, 0, 0);
    }

    static void p30_opened_tells_ARMS_that_were_shut_by_a_STAMP_too() {
        RiverBureau x = Due.deltaOf("r1 a1310");
        x.stamp(0);
        Due.fill(x, 0, 1);
        dueFits("it was shut", x, 1, 1, 1);
    }

    static void p30_opened_tells_no_ARM_that_was_taken_along() {
        RiverBureau x = Due.deltaOf("r2 m1310 a1310");
        x.leave(0);
        Due.fill(x, 0, 0, 0);
        dueFits("0 was stamped, 1 was taken along", x, 1, 1, 1);
    }

    static void p30_opened_is_aside_and_leaves_asked() {
        RiverBureau x = busy();
        x.row(4, 5);
        dueAside("opened(4)", x, 0, y -> y.opened(4));
        Due.due("asked()", x.asked(), TOLD);
    }
}
