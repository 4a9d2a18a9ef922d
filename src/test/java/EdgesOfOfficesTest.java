/** Boundary cases of promises 31 to 34: debts, offices that stall one another, eels. */
public final class EdgesOfOfficesTest extends Edges {
    private static final String FIVE = "r1 a1010 a1010 a1010 a1010 a1010";

    public static void main(String[] args) throws ReflectiveOperationException {
        runCases(EdgesOfOfficesTest.class, 31, 34);
    }

    private static RiverBureau armsOf(int many) {
        return Due.deltaOf("r1" + " a1010".repeat(many));
    }

    private static void dueSettled(int payments, int... debts) {
        RiverBureau x = armsOf(debts.length);
        Due.fill(x, 0, debts);
        Due.due("settle " + java.util.Arrays.toString(debts), x.settle(0), payments);
    }

    private static void dueNought(int... debts) {
        RiverBureau x = armsOf(debts.length);
        Due.fill(x, 0, debts);
        dueFound("settle " + java.util.Arrays.toString(debts), x, NOUGHT, y -> y.settle(0));
    }

    // ---- 31 settle

    static void p31_settle_of_row_minus_1_and_6_is_BAD_ahead_of_STATE() {
        dueRefused("settle(-1)", BAD, x -> x.settle(-1));
        dueRefused("settle(6)", BAD, x -> x.settle(6));
        dueRefused("without arms", new RiverBureau(), BAD, x -> x.settle(6));
    }

    static void p31_settle_without_ARMS_is_STATE_ahead_of_NOTHING_and_SIZE() {
        dueRefused("no row", new RiverBureau(), STATE, x -> x.settle(0));
        RiverBureau x = new RiverBureau();
        x.row(0, 0);
        dueRefused("an empty row", x, STATE, y -> y.settle(0));
    }

    static void p31_settle_of_a_missing_ROW_is_NOTHING() {
        dueFound("settle(3)", NOTHING, x -> x.settle(3));
    }

    static void p31_settle_of_one_too_few_and_one_too_many_is_SIZE() {
        for (int n : new int[] {0, 4, 6, 40}) {
            RiverBureau x = busy();
            x.row(4, n);
            dueFound("a row of " + n + " for 5 arms", x, SIZE, y -> y.settle(4));
        }
    }

    static void p31_settle_of_what_is_not_0_together_is_NOUGHT() {
        dueNought(1);
        dueNought(-1);
        dueNought(0, 0, 0, 0, 1);
        dueNought(5, -4);
    }

    static void p31_SIZE_comes_ahead_of_NOUGHT() {
        RiverBureau x = armsOf(3);
        Due.fill(x, 0, 1, 1);
        dueFound("settle(0)", x, SIZE, y -> y.settle(0));
    }

    static void p31_settle_of_a_sum_that_is_0_by_wrapping_around_is_NOUGHT() {
        dueNought(LEAST, LEAST);
        dueNought(1 << 30, 1 << 30, 1 << 30, 1 << 30);
        dueNought(MOST, MOST, 2);
        dueNought(MOST, LEAST);
    }

    static void p31_settle_of_no_debts_is_0() {
        dueSettled(0, 0);
        dueSettled(0, 0, 0);
        dueSettled(0, 0, 0, 0, 0, 0);
    }

    static void p31_settle_of_two_ARMS_is_1() {
        dueSettled(1, 5, -5);
        dueSettled(1, -5, 5);
        dueSettled(1, MOST, -MOST);
        dueSettled(1, 0, 5, 0, 0, -5);
    }

    static void p31_settle_of_five_ARMS_is_4_at_most() {
        dueSettled(4, 1, 1, 1, 1, -4);
        dueSettled(4, -1, -1, -1, -1, 4);
        dueSettled(4, 5, 6, -4, -4, -3);
    }

    static void p31_settle_saves_a_payment_for_each_group() {
        dueSettled(2, 3, -3, 2, -2, 0);
        dueSettled(2, 3, 2, -2, -3);
        dueSettled(2, 3, 3, -3, -3);
        dueSettled(3, 4, 3, -3, -2, -2);
        dueSettled(3, 5, -2, -3, 1, -1);
        dueSettled(3, -4, -1, 5, 2, -2);
    }

    static void p31_settle_of_groups_that_are_0_by_wrapping_around_alone_saves_none() {
        dueSettled(4, MOST, MOST, 2, LEAST, LEAST);
        dueSettled(2, LEAST, MOST, 1);
        dueSettled(3, LEAST, LEAST + 2, MOST, MOST);
    }

    static void p31_settle_of_the_least_and_the_most_debts() {
        dueSettled(2, LEAST, MOST, 0, 0, 1);
        dueSettled(3, LEAST, LEAST + 1, MOST, MOST, 1);
        dueSettled(3, LEAST, -MOST, MOST, 1, MOST);
    }

    static void p31_settle_again_is_not_led_by_the_debts_ahead() {
        RiverBureau x = armsOf(5);
        Due.fill(x, 0, 0, 0, 0, 0, 0);
        Due.due("no debts", x.settle(0), 0);
        Due.fill(x, 0, 1, 1, 1, 1, -4);
        Due.due("debts then", x.settle(0), 4);
        Due.fill(x, 0, 1, -1, 1, -1, 0);
        Due.due("fewer then", x.settle(0), 2);
    }

    static void p31_settle_only_tells() {
        RiverBureau x = busy();
        Due.fill(x, 4, 1, -1, 2, -2, 0);
        x.at(2, 39);
        dueAside("settle(4)", x, 2, y -> y.settle(4));
        Due.due("asked()", x.asked(), TOLD);
    }

    // ---- 32 stalled

    static void p32_stalled_without_ARMS() {
        RiverBureau x = new RiverBureau();
        dueAsked("stalled()", x, x.stalled(), 0, 0);
    }

    static void p32_stalled_without_WAITS() {
        RiverBureau x = Due.deltaOf(FIVE);
        dueAsked("stalled()", x, x.stalled(), 0, 0);
    }

    static void p32_stalled_by_a_row_of_WAITS_without_a_circle() {
        RiverBureau x = Due.deltaOf(FIVE + " w01 w12 w23 w34");
        dueAsked("stalled()", x, x.stalled(), 0, 4);
    }

    static void p32_stalled_by_the_smallest_circle() {
        RiverBureau x = Due.deltaOf(FIVE + " w04 w40");
        dueAsked("stalled()", x, x.stalled(), 17, 2);
    }

    static void p32_stalled_by_the_largest_circle() {
        RiverBureau x = Due.deltaOf(FIVE + " w01 w12 w23 w34 w40");
        dueAsked("upwards", x, x.stalled(), 31, 5);
        x = Due.deltaOf(FIVE + " w04 w43 w32 w21 w10");
        dueAsked("downwards", x, x.stalled(), 31, 5);
        x = Due.deltaOf(FIVE + " w02 w24 w41 w13 w30");
        dueAsked("by steps of two", x, x.stalled(), 31, 5);
    }

    static void p32_stalled_by_two_circles() {
        RiverBureau x = Due.deltaOf(FIVE + " w01 w10 w34 w43");
        dueAsked("stalled()", x, x.stalled(), 27, 4);
    }

    static void p32_who_WAITS_for_a_circle_or_is_awaited_by_it_is_not_stalled() {
        RiverBureau x = Due.deltaOf(FIVE + " w01 w12 w21 w23");
        dueAsked("stalled()", x, x.stalled(), 6, 4);
    }

    static void p32_stalled_with_all_20_WAITS() {
        RiverBureau x = Due.deltaOf(FIVE);
        awaitAll(x);
        dueAsked("stalled()", x, x.stalled(), 31, 20);
    }

    static void p32_stalled_by_WAITS_whether_ARMS_are_OPEN_or_not() {
        RiverBureau x = Due.deltaOf("r1 b1010 b1010 w01 w10");
        dueAsked("stalled()", x, x.stalled(), 3, 2);
    }

    static void p32_stalled_only_tells() {
        dueAside("stalled()", busy(), 0, x -> x.stalled());
    }

    private static void awaitAll(RiverBureau x) {
        for (int i = 0; i < 5; i++) {
            for (int j = 0; j < 5; j++) {
                x.awaits(i, j, 1);
            }
        }
    }

    // ---- 33 loosen

    private static void dueLoosened(String waits, int... codes) {
        RiverBureau x = Due.deltaOf(FIVE + waits);
        Due.due("loosen" + waits, x.loosen(0), codes.length);
        Due.dueRow("loosen" + waits, x, 0, codes);
    }

    static void p33_loosen_in_row_minus_1_and_6_is_BAD() {
        dueRefused("loosen(-1)", BAD, x -> x.loosen(-1));
        dueRefused("loosen(6)", BAD, x -> x.loosen(6));
        dueRefused("without arms", new RiverBureau(), BAD, x -> x.loosen(6));
    }

    static void p33_loosen_without_ARMS_is_an_empty_ROW() {
        RiverBureau x = new RiverBureau();
        Due.due("loosen(5)", x.loosen(5), 0);
        Due.dueRow("loosen", x, 5);
        Due.due("it is there", x.count(6), 1);
    }

    static void p33_loosen_where_nothing_stalls_is_an_empty_ROW() {
        dueLoosened("");
        dueLoosened(" w01 w12 w23 w34 w04");
        RiverBureau x = busy();
        Due.due("of a row that was there", x.loosen(2), 0);
        Due.dueRow("anew", x, 2);
    }

    static void p33_loosen_of_one_circle_is_its_first_WAIT() {
        dueLoosened(" w01 w10", 1);
        dueLoosened(" w34 w43", 28);
        dueLoosened(" w12 w23 w31", 10);
        dueLoosened(" w04 w43 w32 w21 w10", 4);
    }

    static void p33_loosen_of_what_is_in_two_circles() {
        dueLoosened(" w01 w12 w20 w13 w30", 1);
        dueLoosened(" w02 w13 w23 w30 w31", 2, 11);
        dueLoosened(" w02 w23 w30 w12 w31", 19);
    }

    static void p33_loosen_of_alike_many_is_the_first_row_rising() {
        dueLoosened(" w01 w10 w23 w32", 1, 19);
        dueLoosened(" w10 w01 w43 w34 w32 w23", 1, 19, 28);
        dueLoosened(" w01 w02 w10 w20 w12", 1, 2);
    }

    static void p33_loosen_has_fewer_ahead_of_the_first_row() {
        dueLoosened(" w01 w12 w20 w21", 10);
        dueLoosened(" w01 w02 w03 w14 w24 w34 w40", 32);
    }

    static void p33_loosen_of_all_20_WAITS_is_10() {
        RiverBureau x = Due.deltaOf(FIVE);
        awaitAll(x);
        Due.due("loosen(0)", x.loosen(0), 10);
        Due.dueRow("loosen", x, 0, 1, 2, 3, 4, 10, 11, 12, 19, 20, 28);
    }

    static void p33_loosen_of_the_first_and_the_last_code() {
        dueLoosened(" w01 w10 w43 w34", 1, 28);
        dueLoosened(" w34 w43", 28);
        dueLoosened(" w43 w30 w31 w32 w04 w14 w24", 35);
    }

    static void p33_loosen_again_is_not_led_by_the_WAITS_ahead() {
        RiverBureau x = Due.deltaOf(FIVE + " w01 w10 w23 w32");
        Due.due("two", x.loosen(0), 2);
        x.awaits(1, 0, 0);
        Due.due("one", x.loosen(0), 1);
        Due.dueRow("one", x, 0, 19);
        x.awaits(2, 3, 0);
        Due.due("none", x.loosen(0), 0);
        Due.dueRow("none", x, 0);
    }

    static void p33_loosen_only_tells() {
        RiverBureau x = Due.deltaOf("r1 a1010 a1010 w01 w10");
        x.loosen(0);
        dueAsked("they wait still", x, x.stalled(), 3, 2);
        x = busy();
        x.loosen(4);
        Due.due("asked()", x.asked(), TOLD);
    }

    static void p33_loosened_so_none_is_stalled() {
        RiverBureau x = Due.deltaOf(FIVE);
        awaitAll(x);
        int many = x.loosen(0);
        for (int k = 0; k < many; k++) {
            x.at(0, k);
            Due.due("a wait", x.awaits(x.asked() / 8, x.asked() % 8, 0), 1);
        }
        dueAsked("none is stalled", x, x.stalled(), 0, 10);
    }

    // ---- 34 eels

    static void p34_eels_between_neighbours_is_0() {
        RiverBureau x = Due.deltaOf("r1 b1010 b1010 b1010 b1010 b1010");
        for (int i = 0; i < 4; i++) {
            Due.due("up", x.eels(i, i + 1), 0);
            Due.due("down", x.eels(i + 1, i), 0);
        }
    }

    static void p34_eels_from_the_first_to_the_last_is_3() {
        RiverBureau x = Due.deltaOf("r1 b1010 b1010 b1010 b1010 b1010");
        Due.due("up", x.eels(0, 4), 3);
        Due.due("down", x.eels(4, 0), 3);
        Due.due("two between", x.eels(1, 4), 2);
    }

    static void p34_eels_from_an_ARM_to_itself_is_BAD() {
        dueRefused("open", BAD, x -> x.eels(3, 3));
        dueRefused("shut", BAD, x -> x.eels(1, 1));
    }

    static void p34_eels_of_an_ARM_that_there_is_not_is_BAD() {
        dueRefused("eels(-1, 0)", BAD, x -> x.eels(-1, 0));
        dueRefused("eels(0, -1)", BAD, x -> x.eels(0, -1));
        dueRefused("eels(5, 0)", BAD, x -> x.eels(5, 0));
        dueRefused("eels(0, 5)", BAD, x -> x.eels(0, 5));
        dueRefused("without arms", new RiverBureau(), BAD, x -> x.eels(0, 1));
    }

    static void p34_eels_where_one_of_all_is_SHUT_is_NONE() {
        String[] deltas = {"abbbb", "babbb", "bbabb", "bbbab", "bbbba"};
        for (String letters : deltas) {
            StringBuilder text = new StringBuilder("r1");
            for (char c : letters.toCharArray()) {
                text.append(' ').append(c).append("1010");
            }
            RiverBureau x = Due.deltaOf(text.toString());
            Due.due("up " + letters, x.eels(0, 4), NONE);
            Due.due("down " + letters, x.eels(4, 0), NONE);
        }
    }

    static void p34_eels_past_ARMS_that_are_SHUT_outside() {
        RiverBureau x = Due.deltaOf("r1 a1010 b1010 b1010 b1010 a1010");
        Due.due("eels(1, 3)", x.eels(1, 3), 1);
        Due.due("eels(3, 1)", x.eels(3, 1), 1);
        Due.due("eels(0, 1)", x.eels(0, 1), NONE);
        Due.due("eels(3, 4)", x.eels(3, 4), NONE);
    }

    static void p34_eels_past_a_DEAD_one_is_NONE() {
        RiverBureau x = Due.deltaOf("r1 b1010 s1010 b1010");
        passSeasons(x, 5);
        Due.due("eels(0, 2)", x.eels(0, 2), NONE);
    }

    static void p34_eels_only_tells() {
        RiverBureau x = busy();
        dueAside("eels(3, 4)", x, 0, y -> y.eels(3, 4));
        dueAside("eels(0, 4)", x, NONE, y -> y.eels(0, 4));
        Due.due("asked()", x.asked(), TOLD);
    }
}
