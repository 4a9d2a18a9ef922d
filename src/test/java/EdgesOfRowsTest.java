/** Boundary cases of promises 1 to 9: a new object, rows and texts. */
public final class EdgesOfRowsTest extends Edges {
    public static void main(String[] args) throws ReflectiveOperationException {
        runCases(EdgesOfRowsTest.class, 1, 9);
    }

    // ---- 1 a new object

    static void p01_new_object_counts_0_of_everything() {
        RiverBureau x = new RiverBureau();
        for (int what = 0; what <= 9; what++) {
            Due.due("count(" + what + ")", x.count(what), 0);
        }
    }

    static void p01_new_object_has_no_ROW() {
        for (int r = 0; r <= 5; r++) {
            int row = r;
            dueFound("at(" + r + ", 0)", new RiverBureau(), NOTHING, x -> x.at(row, 0));
        }
    }

    static void p01_new_object_has_no_TEXT() {
        for (int t = 0; t <= 3; t++) {
            int text = t;
            dueFound("put(" + t + ", 0, 32)", new RiverBureau(), NOTHING, x -> x.put(text, 0, 32));
        }
    }

    static void p01_new_object_has_no_ARM() {
        dueRefused("arm(0, 0)", new RiverBureau(), BAD, x -> x.arm(0, 0));
        dueRefused("now()", new RiverBureau(), STATE, x -> x.now());
    }

    static void p01_new_object_has_no_kept_DELTA() {
        for (int k = 0; k <= 2; k++) {
            int place = k;
            dueFound("on(" + k + ")", new RiverBureau(), NOTHING, x -> x.on(place));
        }
    }

    static void p01_objects_have_nothing_in_common() {
        RiverBureau x = busy();
        RiverBureau y = new RiverBureau();
        Due.due("digest of a new one", y.digest(), new RiverBureau().digest());
        Due.due("asked() of a new one", y.asked(), 0);
        Due.due("findings of a new one", y.findings(NOUGHT), 0);
        long digest = x.digest();
        y.row(0, 4);
        y.text(0, 9);
        Due.due("the other one stays", x.digest(), digest);
    }

    // ---- 2 row

    static void p02_row_of_0_ints_is_there_and_empty() {
        RiverBureau x = new RiverBureau();
        Due.due("row(3, 0)", x.row(3, 0), 0);
        Due.due("it is there", x.count(6), 1);
        Due.dueRow("empty", x, 3);
    }

    static void p02_row_of_40_ints_is_the_largest() {
        RiverBureau x = new RiverBureau();
        Due.due("row(3, 40)", x.row(3, 40), 40);
        Due.dueRow("all 0", x, 3, new int[40]);
    }

    static void p02_row_of_41_ints_is_BAD() {
        dueRefused("row(0, 41)", BAD, x -> x.row(0, 41));
        dueRefused("row(3, 41)", BAD, x -> x.row(3, 41));
        dueRefused("row(0, MOST)", BAD, x -> x.row(0, MOST));
    }

    static void p02_row_of_fewer_than_0_ints_is_SIZE() {
        dueFound("row(0, -1)", SIZE, x -> x.row(0, -1));
        dueFound("row(3, -1)", SIZE, x -> x.row(3, -1));
        dueFound("row(0, LEAST)", SIZE, x -> x.row(0, LEAST));
    }

    static void p02_row_0_and_row_5_are_the_first_and_the_last() {
        RiverBureau x = new RiverBureau();
        Due.due("row(0, 1)", x.row(0, 1), 1);
        Due.due("row(5, 2)", x.row(5, 2), 2);
        Due.dueRow("row 0", x, 0, 0);
        Due.dueRow("row 5", x, 5, 0, 0);
    }

    static void p02_row_minus_1_and_row_6_are_BAD() {
        dueRefused("row(-1, 1)", BAD, x -> x.row(-1, 1));
        dueRefused("row(6, 1)", BAD, x -> x.row(6, 1));
        dueRefused("row(LEAST, 1)", BAD, x -> x.row(LEAST, 1));
        dueRefused("row(MOST, 1)", BAD, x -> x.row(MOST, 1));
    }

    static void p02_BAD_comes_ahead_of_SIZE() {
        dueRefused("row(6, -1)", BAD, x -> x.row(6, -1));
        dueRefused("row(-1, -1)", BAD, x -> x.row(-1, -1));
    }

    static void p02_row_made_anew_is_all_0() {
        RiverBureau x = new RiverBureau();
        Due.fill(x, 2, 1, 2, 3);
        x.row(2, 3);
        Due.dueRow("as large", x, 2, 0, 0, 0);
        Due.fill(x, 2, 1, 2, 3);
        x.row(2, 1);
        Due.dueRow("smaller", x, 2, 0);
        x.row(2, 4);
        Due.dueRow("larger", x, 2, 0, 0, 0, 0);
    }

    static void p02_row_made_anew_after_it_was_torn_is_all_0() {
        RiverBureau x = new RiverBureau();
        Due.fill(x, 2, 1, 2, 3);
        x.tear(2);
        x.row(2, 3);
        Due.dueRow("anew", x, 2, 0, 0, 0);
    }

    static void p02_all_6_rows_of_40_have_room_at_once() {
        RiverBureau x = new RiverBureau();
        for (int r = 0; r <= 5; r++) {
            Due.due("row(" + r + ", 40)", x.row(r, 40), 40);
            x.lay(r, 0, 10 + r);
            x.lay(r, 39, 20 + r);
        }
        Due.due("rows", x.count(6), 6);
        for (int r = 0; r <= 5; r++) {
            dueAsked("first place of row " + r, x, x.at(r, 0), 1, 10 + r);
            dueAsked("last place of row " + r, x, x.at(r, 39), 1, 20 + r);
        }
    }

    // ---- 3 lay

    static void p03_lay_at_the_first_and_the_last_place() {
        RiverBureau x = new RiverBureau();
        x.row(0, 40);
        dueAsked("lay(0, 0, 4)", x, x.lay(0, 0, 4), 1, 0);
        dueAsked("lay(0, 39, 5)", x, x.lay(0, 39, 5), 1, 0);
        dueAsked("lay(0, 0, 6): what it was", x, x.lay(0, 0, 6), 1, 4);
        dueAsked("lay(0, 39, 7): what it was", x, x.lay(0, 39, 7), 1, 5);
        dueAsked("at(0, 0)", x, x.at(0, 0), 1, 6);
        dueAsked("at(0, 39)", x, x.at(0, 39), 1, 7);
    }

    static void p03_lay_of_the_least_and_the_most_int() {
        RiverBureau x = new RiverBureau();
        x.row(0, 1);
        x.lay(0, 0, LEAST);
        dueAsked("the least", x, x.lay(0, 0, MOST), 1, LEAST);
        dueAsked("the most", x, x.lay(0, 0, 0), 1, MOST);
    }

    static void p03_lay_at_minus_1_and_at_the_size_is_BEYOND() {
        dueFound("lay(0, -1, 9)", BEYOND, x -> x.lay(0, -1, 9));
        dueFound("lay(0, 3, 9)", BEYOND, x -> x.lay(0, 3, 9));
        dueFound("lay(2, 40, 9)", BEYOND, x -> x.lay(2, 40, 9));
        dueFound("lay(0, LEAST, 9)", BEYOND, x -> x.lay(0, LEAST, 9));
        dueFound("lay(0, MOST, 9)", BEYOND, x -> x.lay(0, MOST, 9));
    }

    static void p03_lay_in_an_empty_ROW_is_BEYOND() {
        dueFound("lay(1, 0, 9)", BEYOND, x -> x.lay(1, 0, 9));
    }

    static void p03_lay_in_a_missing_ROW_is_NOTHING_ahead_of_BEYOND() {
        dueFound("lay(3, 0, 9)", NOTHING, x -> x.lay(3, 0, 9));
        dueFound("lay(3, -1, 9)", NOTHING, x -> x.lay(3, -1, 9));
        dueFound("lay(5, 40, 9)", NOTHING, x -> x.lay(5, 40, 9));
    }

    static void p03_lay_in_row_minus_1_and_6_is_BAD() {
        dueRefused("lay(-1, 0, 9)", BAD, x -> x.lay(-1, 0, 9));
        dueRefused("lay(6, 0, 9)", BAD, x -> x.lay(6, 0, 9));
        dueRefused("lay(6, -1, 9)", BAD, x -> x.lay(6, -1, 9));
    }

    // ---- 4 at

    static void p04_at_the_first_and_the_last_place() {
        RiverBureau x = busy();
        dueAsked("at(0, 0)", x, x.at(0, 0), 1, 5);
        dueAsked("at(0, 2)", x, x.at(0, 2), 1, 7);
        dueAsked("at(2, 0)", x, x.at(2, 0), 1, 0);
        dueAsked("at(2, 39)", x, x.at(2, 39), 1, TOLD);
    }

    static void p04_at_leaves_the_place_as_it_is() {
        RiverBureau x = busy();
        dueAside("at(0, 1)", x, 1, y -> y.at(0, 1));
        Due.due("what it is", x.asked(), -6);
    }

    static void p04_at_minus_1_and_at_the_size_is_BEYOND() {
        dueFound("at(0, -1)", BEYOND, x -> x.at(0, -1));
        dueFound("at(0, 3)", BEYOND, x -> x.at(0, 3));
        dueFound("at(2, 40)", BEYOND, x -> x.at(2, 40));
        dueFound("at(0, LEAST)", BEYOND, x -> x.at(0, LEAST));
        dueFound("at(0, MOST)", BEYOND, x -> x.at(0, MOST));
    }

    static void p04_at_in_an_empty_ROW_is_BEYOND() {
        dueFound("at(1, 0)", BEYOND, x -> x.at(1, 0));
    }

    static void p04_at_in_a_missing_ROW_is_NOTHING_ahead_of_BEYOND() {
        dueFound("at(3, 0)", NOTHING, x -> x.at(3, 0));
        dueFound("at(3, -1)", NOTHING, x -> x.at(3, -1));
    }

    static void p04_at_in_row_minus_1_and_6_is_BAD() {
        dueRefused("at(-1, 0)", BAD, x -> x.at(-1, 0));
        dueRefused("at(6, 0)", BAD, x -> x.at(6, 0));
        dueRefused("at(LEAST, -1)", BAD, x -> x.at(LEAST, -1));
    }

    // ---- 5 tear

    static void p05_tear_of_the_first_and_the_last_ROW() {
        RiverBureau x = new RiverBureau();
        x.row(0, 1);
        x.row(5, 1);
        Due.due("tear(0)", x.tear(0), 1);
        Due.due("tear(5)", x.tear(5), 1);
        Due.due("rows", x.count(6), 0);
    }

    static void p05_tear_of_an_empty_ROW() {
        RiverBureau x = busy();
        Due.due("tear(1)", x.tear(1), 1);
        dueFound("at(1, 0)", x, NOTHING, y -> y.at(1, 0));
    }

    static void p05_tear_of_a_missing_ROW_is_NOTHING() {
        dueFound("tear(3)", NOTHING, x -> x.tear(3));
    }

    static void p05_tear_of_a_torn_ROW_is_NOTHING() {
        RiverBureau x = busy();
        x.tear(0);
        dueFound("tear(0) again", x, NOTHING, y -> y.tear(0));
    }

    static void p05_tear_of_row_minus_1_and_6_is_BAD() {
        dueRefused("tear(-1)", BAD, x -> x.tear(-1));
        dueRefused("tear(6)", BAD, x -> x.tear(6));
    }

    static void p05_tear_leaves_the_other_ROWS_and_asked() {
        RiverBureau x = busy();
        x.tear(2);
        Due.due("asked() stays", x.asked(), TOLD);
        Due.dueRow("the other one", x, 0, 5, -6, 7);
    }

    // ---- 6 copy

    static void p06_copy_of_0_places_changes_nothing() {
        dueAside("copy(0, 0, 0, 1, 0)", busy(), 1, x -> x.copy(0, 0, 0, 1, 0));
        dueAside("behind both last places", busy(), 1, x -> x.copy(0, 3, 2, 40, 0));
        dueAside("of an empty ROW", busy(), 1, x -> x.copy(1, 0, 1, 0, 0));
    }

    static void p06_copy_of_all_40_places() {
        RiverBureau x = new RiverBureau();
        x.row(0, 40);
        x.row(5, 40);
        int[] values = new int[40];
        for (int i = 0; i < 40; i++) {
            values[i] = 3 * i - 50;
            x.lay(0, i, values[i]);
        }
        Due.due("copy(0, 0, 5, 0, 40)", x.copy(0, 0, 5, 0, 40), 1);
        Due.dueRow("all came", x, 5, values);
        Due.dueRow("all stay", x, 0, values);
    }

    static void p06_copy_within_a_ROW_upwards_as_if_taken_ahead() {
        RiverBureau x = new RiverBureau();
        Due.fill(x, 0, 1, 2, 3, 4, 5);
        Due.due("copy(0, 0, 0, 1, 4)", x.copy(0, 0, 0, 1, 4), 1);
        Due.dueRow("one up", x, 0, 1, 1, 2, 3, 4);
    }

    static void p06_copy_within_a_ROW_downwards_as_if_taken_ahead() {
        RiverBureau x = new RiverBureau();
        Due.fill(x, 0, 1, 2, 3, 4, 5);
        Due.due("copy(0, 1, 0, 0, 4)", x.copy(0, 1, 0, 0, 4), 1);
        Due.dueRow("one down", x, 0, 2, 3, 4, 5, 5);
    }

    static void p06_copy_onto_the_same_places() {
        dueAside("copy(0, 0, 0, 0, 3)", busy(), 1, x -> x.copy(0, 0, 0, 0, 3));
    }

    static void p06_copy_up_to_both_last_places() {
        RiverBureau x = busy();
        Due.due("copy(0, 2, 2, 39, 1)", x.copy(0, 2, 2, 39, 1), 1);
        dueAsked("it came", x, x.at(2, 39), 1, 7);
    }

    static void p06_copy_of_fewer_than_0_is_SIZE() {
        dueFound("copy(0, 0, 2, 0, -1)", SIZE, x -> x.copy(0, 0, 2, 0, -1));
        dueFound("copy(0, 0, 2, 0, LEAST)", SIZE, x -> x.copy(0, 0, 2, 0, LEAST));
    }

    static void p06_copy_with_either_ROW_missing_is_NOTHING() {
        dueFound("copy(3, 0, 0, 0, 1)", NOTHING, x -> x.copy(3, 0, 0, 0, 1));
        dueFound("copy(0, 0, 3, 0, 1)", NOTHING, x -> x.copy(0, 0, 3, 0, 1));
        dueFound("copy(3, 0, 3, 0, 0)", NOTHING, x -> x.copy(3, 0, 3, 0, 0));
    }

    static void p06_copy_of_one_too_many_is_BEYOND() {
        dueFound("from: copy(0, 0, 2, 0, 4)", BEYOND, x -> x.copy(0, 0, 2, 0, 4));
        dueFound("from: copy(0, 3, 2, 0, 1)", BEYOND, x -> x.copy(0, 3, 2, 0, 1));
        dueFound("to: copy(2, 0, 0, 0, 4)", BEYOND, x -> x.copy(2, 0, 0, 0, 4));
        dueFound("to: copy(0, 0, 2, 38, 3)", BEYOND, x -> x.copy(0, 0, 2, 38, 3));
        dueFound("of an empty ROW", BEYOND, x -> x.copy(1, 0, 2, 0, 1));
        dueFound("to an empty ROW", BEYOND, x -> x.copy(2, 0, 1, 0, 1));
    }

    static void p06_copy_from_or_to_a_place_below_0_is_BEYOND() {
        dueFound("copy(0, -1, 2, 0, 1)", BEYOND, x -> x.copy(0, -1, 2, 0, 1));
        dueFound("copy(0, 0, 2, -1, 1)", BEYOND, x -> x.copy(0, 0, 2, -1, 1));
        dueFound("copy(0, -1, 2, 0, 2)", BEYOND, x -> x.copy(0, -1, 2, 0, 2));
        dueFound("copy(0, LEAST, 2, 0, 1)", BEYOND, x -> x.copy(0, LEAST, 2, 0, 1));
        dueFound("copy(0, 0, 2, LEAST, 1)", BEYOND, x -> x.copy(0, 0, 2, LEAST, 1));
    }

    static void p06_copy_whose_end_wraps_around_is_BEYOND() {
        dueFound("copy(0, 1, 2, 0, MOST)", BEYOND, x -> x.copy(0, 1, 2, 0, MOST));
        dueFound("copy(0, MOST, 2, 0, 1)", BEYOND, x -> x.copy(0, MOST, 2, 0, 1));
        dueFound("copy(0, MOST, 2, 0, MOST)", BEYOND, x -> x.copy(0, MOST, 2, 0, MOST));
        dueFound("copy(0, 0, 2, MOST, 1)", BEYOND, x -> x.copy(0, 0, 2, MOST, 1));
        dueFound("copy(0, 0, 2, MOST, 2)", BEYOND, x -> x.copy(0, 0, 2, MOST, 2));
    }

    static void p06_copy_with_either_row_minus_1_or_6_is_BAD() {
        dueRefused("copy(-1, 0, 0, 0, 1)", BAD, x -> x.copy(-1, 0, 0, 0, 1));
        dueRefused("copy(6, 0, 0, 0, 1)", BAD, x -> x.copy(6, 0, 0, 0, 1));
        dueRefused("copy(0, 0, -1, 0, 1)", BAD, x -> x.copy(0, 0, -1, 0, 1));
        dueRefused("copy(0, 0, 6, 0, 1)", BAD, x -> x.copy(0, 0, 6, 0, 1));
    }

    static void p06_copy_tells_BAD_then_SIZE_then_NOTHING_then_BEYOND() {
        dueRefused("BAD ahead of SIZE", BAD, x -> x.copy(6, 0, 3, 0, -1));
        dueFound("SIZE ahead of NOTHING", SIZE, x -> x.copy(3, -1, 0, 0, -1));
        dueFound("NOTHING ahead of BEYOND", NOTHING, x -> x.copy(0, -1, 3, 0, 99));
    }

    static void p06_copy_leaves_asked() {
        RiverBureau x = busy();
        x.copy(0, 0, 2, 0, 3);
        Due.due("asked() stays", x.asked(), TOLD);
    }

    // ---- 7 mean

    private static void dueMean(int want, int... values) {
        RiverBureau x = new RiverBureau();
        Due.fill(x, 0, values);
        dueAsked("mean", x, x.mean(0), 1, want);
    }

    static void p07_mean_of_one_int_is_that() {
        dueMean(8, 8);
        dueMean(LEAST, LEAST);
    }

    static void p07_mean_is_cut() {
        dueMean(3, 3, 4);
        dueMean(2, 2, 3, 3);
        dueMean(-3, -3, -4);
        dueMean(0, -1, 0);
        dueMean(0, 1, 0);
    }

    static void p07_mean_of_ints_whose_sum_runs_over() {
        dueMean(MOST, MOST, MOST, MOST);
        dueMean(LEAST, LEAST, LEAST);
        dueMean(0, MOST, LEAST);
        int[] most = new int[40];
        java.util.Arrays.fill(most, MOST);
        dueMean(MOST, most);
    }

    static void p07_mean_takes_every_place_from_the_first_to_the_last() {
        dueMean(2, 6, 0, 0);
        dueMean(2, 0, 0, 6);
    }

    static void p07_mean_of_an_empty_ROW_is_NOUGHT() {
        dueFound("mean(1)", NOUGHT, x -> x.mean(1));
    }

    static void p07_mean_of_a_missing_ROW_is_NOTHING() {
        dueFound("mean(3)", NOTHING, x -> x.mean(3));
    }

    static void p07_mean_of_row_minus_1_and_6_is_BAD() {
        dueRefused("mean(-1)", BAD, x -> x.mean(-1));
        dueRefused("mean(6)", BAD, x -> x.mean(6));
    }

    // ---- 8 text

    static void p08_text_of_0_bytes_is_there_and_empty() {
        RiverBureau x = new RiverBureau();
        Due.due("text(1, 0)", x.text(1, 0), 0);
        Due.due("it is there", x.count(7), 1);
        dueFound("put(1, 0, 1)", x, BEYOND, y -> y.put(1, 0, 1));
    }

    static void p08_text_of_60_bytes_is_the_largest() {
        RiverBureau x = new RiverBureau();
        Due.due("text(1, 60)", x.text(1, 60), 60);
        for (int i = 0; i < 60; i++) {
            Due.due("a blank at " + i, x.put(1, i, i), 1032);
        }
        dueFound("put(1, 60, 1)", x, BEYOND, y -> y.put(1, 60, 1));
    }

    static void p08_text_of_61_bytes_is_BAD() {
        dueRefused("text(0, 61)", BAD, x -> x.text(0, 61));
        dueRefused("text(3, 61)", BAD, x -> x.text(3, 61));
        dueRefused("text(0, MOST)", BAD, x -> x.text(0, MOST));
    }

    static void p08_text_of_fewer_than_0_bytes_is_SIZE() {
        dueFound("text(0, -1)", SIZE, x -> x.text(0, -1));
        dueFound("text(3, LEAST)", SIZE, x -> x.text(3, LEAST));
    }

    static void p08_text_0_and_text_3_are_the_first_and_the_last() {
        RiverBureau x = new RiverBureau();
        Due.due("text(0, 1)", x.text(0, 1), 1);
        Due.due("text(3, 2)", x.text(3, 2), 2);
        Due.due("texts", x.count(7), 2);
        Due.due("put(0, 0, 1)", x.put(0, 0, 1), 1032);
        Due.due("put(3, 1, 1)", x.put(3, 1, 1), 1032);
    }

    static void p08_text_minus_1_and_text_4_are_BAD() {
        dueRefused("text(-1, 1)", BAD, x -> x.text(-1, 1));
        dueRefused("text(4, 1)", BAD, x -> x.text(4, 1));
    }

    static void p08_BAD_comes_ahead_of_SIZE() {
        dueRefused("text(4, -1)", BAD, x -> x.text(4, -1));
        dueRefused("text(-1, -1)", BAD, x -> x.text(-1, -1));
    }

    static void p08_text_made_anew_is_all_blanks() {
        RiverBureau x = new RiverBureau();
        Due.write(x, 2, "abc");
        x.text(2, 4);
        for (int i = 0; i < 4; i++) {
            Due.due("a blank at " + i, x.put(2, i, 0), 1032);
        }
    }

    static void p08_text_leaves_the_DELTA() {
        RiverBureau x = busy();
        x.text(0, 0);
        Due.due("arms", x.count(0), 5);
        Due.due("season", x.now(), 1);
    }

    // ---- 9 put

    private static void duePut(int v, int cut) {
        RiverBureau x = new RiverBureau();
        x.text(0, 1);
        x.put(0, 0, v);
        Due.due("put of " + v, x.put(0, 0, 0), 1000 + cut);
    }

    static void p09_put_of_the_least_and_the_most_byte() {
        duePut(-128, -128);
        duePut(127, 127);
        duePut(0, 0);
        duePut(-1, -1);
    }

    static void p09_put_of_what_is_no_byte_is_cut_and_wraps_around() {
        duePut(128, -128);
        duePut(255, -1);
        duePut(256, 0);
        duePut(321, 65);
        duePut(-129, 127);
        duePut(-256, 0);
        duePut(MOST, -1);
        duePut(LEAST, 0);
    }

    static void p09_put_at_the_first_and_the_last_place() {
        RiverBureau x = new RiverBureau();
        x.text(3, 60);
        Due.due("put(3, 0, 5)", x.put(3, 0, 5), 1032);
        Due.due("put(3, 59, 6)", x.put(3, 59, 6), 1032);
        Due.due("put(3, 0, 0)", x.put(3, 0, 0), 1005);
        Due.due("put(3, 59, 0)", x.put(3, 59, 0), 1006);
    }

    static void p09_put_at_minus_1_and_at_the_size_is_BEYOND() {
        dueFound("put(2, -1, 9)", BEYOND, x -> x.put(2, -1, 9));
        dueFound("put(2, 60, 9)", BEYOND, x -> x.put(2, 60, 9));
        dueFound("put(2, LEAST, 9)", BEYOND, x -> x.put(2, LEAST, 9));
        dueFound("put(2, MOST, 9)", BEYOND, x -> x.put(2, MOST, 9));
    }

    static void p09_put_in_an_empty_TEXT_is_BEYOND() {
        dueFound("put(1, 0, 9)", BEYOND, x -> x.put(1, 0, 9));
    }

    static void p09_put_in_a_missing_TEXT_is_NOTHING_ahead_of_BEYOND() {
        dueFound("put(3, 0, 9)", NOTHING, x -> x.put(3, 0, 9));
        dueFound("put(3, -1, 9)", NOTHING, x -> x.put(3, -1, 9));
    }

    static void p09_put_in_text_minus_1_and_4_is_BAD() {
        dueRefused("put(-1, 0, 9)", BAD, x -> x.put(-1, 0, 9));
        dueRefused("put(4, 0, 9)", BAD, x -> x.put(4, 0, 9));
    }

    static void p09_put_leaves_asked_and_the_DELTA() {
        RiverBureau x = busy();
        x.put(0, 1, 57);
        Due.due("asked() stays", x.asked(), TOLD);
        Due.due("the river stays", x.count(1), 12);
    }
}
