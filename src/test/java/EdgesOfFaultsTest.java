/** Boundary cases of promise 10: which texts are deltas, and where others have their fault. */
public final class EdgesOfFaultsTest extends Edges {
    private static final String RIVER = "r1", ARM = "a1010", FIVE = RIVER + ARM.repeat(5);
    private static final String EIGHT_WAITS = "w01w02w03w04w10w12w13w14";

    public static void main(String[] args) throws ReflectiveOperationException {
        runCases(EdgesOfFaultsTest.class, 10, 10);
    }

    private static void dueFault(String text, int place) {
        Due.due("fault of '" + text + "'", Due.faultOf(text), place);
    }

    /**
     * Any byte at one place of a text that has no fault otherwise: the good signs alone are none there. Signs whose
     * fault comes elsewhere are left aside here; they have cases of their own.
     */
    private static void dueGoodSigns(String text, int place, String good, String aside) {
        for (int sign = -128; sign <= 127; sign++) {
            if (sign >= 0 && aside.indexOf(sign) >= 0) {
                continue;
            }
            RiverBureau x = new RiverBureau();
            Due.write(x, 0, text);
            x.put(0, place, sign);
            boolean fits = sign >= 0 && good.indexOf(sign) >= 0;
            Due.due("fault of '" + text + "' with " + sign + " at " + place, x.fault(0), fits ? NONE : place);
        }
    }

    private static void dueGoodSigns(String text, int place, String good) {
        dueGoodSigns(text, place, good, "");
    }

    static void p10_fault_of_an_empty_TEXT_is_at_0() {
        dueFault("", 0);
    }

    static void p10_fault_of_blanks_alone_is_the_size() {
        dueFault(" ", 1);
        dueFault("   ", 3);
        dueFault(" ".repeat(60), 60);
    }

    static void p10_fault_without_an_ARM_is_the_size() {
        dueFault("r1", 2);
        dueFault("r1 ", 3);
        dueFault("  r9  ", 6);
        dueFault("r1" + " ".repeat(58), 60);
    }

    static void p10_fault_where_the_end_comes_too_early_is_the_size() {
        String whole = RIVER + ARM + ARM + "w01";
        for (int n = 0; n <= whole.length(); n++) {
            boolean ends = n == 7 || n == 12 || n == 15;
            dueFault(whole.substring(0, n), ends ? NONE : n);
        }
    }

    static void p10_fault_where_the_end_of_60_bytes_comes_too_early_is_60() {
        dueFault(RIVER + ARM + " ".repeat(49) + "a101", 60);
        dueFault(RIVER + ARM + ARM + " ".repeat(46) + "w0", 60);
        dueFault(RIVER + ARM + " ".repeat(52) + "w", 60);
    }

    static void p10_fault_of_a_shorter_TEXT_behind_a_longer_one_is_its_own_size() {
        String whole = RIVER + ARM + ARM + "w01";
        for (int n : new int[] {0, 1, 2, 3, 6, 8, 11, 13, 14}) {
            RiverBureau x = new RiverBureau();
            Due.write(x, 0, whole);
            Due.write(x, 1, whole.substring(0, n));
            Due.due("the longer one", x.fault(0), NONE);
            Due.due("the first " + n, x.fault(1), n);
            Due.due("the longer one again", x.fault(0), NONE);
            dueRefused("delta by the first " + n, x, STATE, y -> y.delta(1));
        }
    }

    static void p10_TEXT_of_60_bytes_without_a_FAULT() {
        dueFault(FIVE + EIGHT_WAITS + " ".repeat(9), NONE);
        dueFault(" ".repeat(9) + FIVE + EIGHT_WAITS, NONE);
        dueFault(RIVER + " ".repeat(53) + ARM, NONE);
    }

    static void p10_fault_in_the_last_of_60_bytes() {
        dueFault(FIVE + EIGHT_WAITS + " ".repeat(8) + "x", 59);
        dueFault(RIVER + " ".repeat(53) + "a1011", 59);
    }

    static void p10_blanks_ahead_between_behind_as_many_as_wanted() {
        dueFault("   r1   a1010   a1010   w01   w10   ", NONE);
        dueFault("r1a1010a1010w01w10", NONE);
        dueFault(" r1a1010", NONE);
        dueFault("r1 a1010", NONE);
        dueFault("r1a1010 ", NONE);
    }

    static void p10_blank_within_an_item_is_a_FAULT_at_its_place() {
        dueFault("r 1a1010", 1);
        dueFault("r1a 1010", 3);
        dueFault("r1a1 010", 4);
        dueFault("r1a10 10", 5);
        dueFault("r1a101 0", 6);
        dueFault("r1a1010a1010w 01", 13);
        dueFault("r1a1010a1010w0 1", 14);
    }

    static void p10_no_sign_but_a_blank_is_passed_over() {
        dueFault("\tr1a1010", 0);
        dueFault("r1\na1010", 2);
        dueFault("r1,a1010", 2);
        dueFault("r1a1010\0", 7);
        dueFault("r1a10100", 7);
        dueFault("r12a1010", 2);
        dueFault("r1a1010a1010w012", 15);
    }

    static void p10_first_item_is_a_river() {
        dueFault("a1010", 0);
        dueFault("w01", 0);
        dueFault("1", 0);
        dueFault("  R1a1010", 2);
        dueGoodSigns("r1a1010", 0, "r", " ");
        dueFault(" 1a1010", 1);
    }

    static void p10_second_river_is_a_FAULT() {
        dueFault("r1r1a1010", 2);
        dueFault("r1a1010 r1", 8);
        dueFault("r1a1010a1010w01r1", 15);
    }

    static void p10_river_of_1_to_9() {
        dueGoodSigns("r1a1010", 1, "123456789");
    }

    static void p10_letters_of_the_6_KINDS() {
        dueGoodSigns("r1 a1010", 3, "atsblm", " ");
        dueFault("r1  1010", 4);
    }

    static void p10_letters_of_later_ARMS() {
        dueGoodSigns("r1a1010a1010a1010a1010a1010", 22, "atsblm", " w");
        dueFault("r1a1010a1010a1010a1010w1010", 25);
    }

    static void p10_WIDTH_of_1_to_9() {
        dueGoodSigns("r1a1010", 3, "123456789");
    }

    static void p10_NEED_of_0_to_9() {
        dueGoodSigns("r1a1010", 4, "0123456789");
    }

    static void p10_YEAR_of_1_to_6() {
        dueGoodSigns("r1a1010", 5, "123456");
    }

    static void p10_DAY_of_0_to_5_below_the_YEAR() {
        dueGoodSigns("r1a1060", 6, "012345");
        dueGoodSigns("r1a1050", 6, "01234");
        dueGoodSigns("r1a1040", 6, "0123");
        dueGoodSigns("r1a1030", 6, "012");
        dueGoodSigns("r1a1020", 6, "01");
        dueGoodSigns("r1a1010", 6, "0");
    }

    static void p10_DAY_that_is_the_YEAR_is_a_FAULT_in_the_last_ARM_too() {
        dueFault("r1a1010a1010a1010a1010a1066", 26);
        dueFault("r1a1010a1010a1010a1010a1065", NONE);
    }

    static void p10_five_ARMS_are_the_most() {
        dueFault(FIVE, NONE);
        dueFault("r1 a1010", NONE);
    }

    static void p10_sixth_ARM_is_a_FAULT_at_its_place() {
        dueFault(FIVE + ARM, 27);
        dueFault(FIVE + "  " + ARM, 29);
        dueFault(FIVE + "m", 27);
    }

    static void p10_eight_WAITS_are_the_most() {
        dueFault(FIVE + EIGHT_WAITS, NONE);
    }

    static void p10_ninth_WAIT_is_a_FAULT_at_its_place() {
        dueFault(FIVE + EIGHT_WAITS + "w20", 51);
        dueFault(FIVE + EIGHT_WAITS + "  w20", 53);
        dueFault(FIVE + EIGHT_WAITS + "w", 51);
    }

    static void p10_ARM_behind_a_WAIT_is_a_FAULT_at_its_place() {
        dueFault("r1a1010a1010w01a1010", 15);
        dueFault("r1a1010a1010w01 b1010", 16);
        dueFault("r1a1010a1010w01a", 15);
    }

    static void p10_WAIT_ahead_of_all_ARMS_is_a_FAULT_at_its_place() {
        dueFault("r1w01a1010a1010", 2);
        dueFault("r1  w", 4);
    }

    static void p10_WAIT_of_an_ARM_that_there_is_not() {
        dueGoodSigns("r1a1010a1010a1010a1010a1010w40", 28, "1234", "0");
        dueFault(FIVE + "w50", 28);
    }

    static void p10_WAIT_for_an_ARM_that_there_is_not() {
        dueGoodSigns("r1a1010a1010a1010a1010a1010w04", 29, "1234");
        dueGoodSigns("r1a1010a1010a1010w21", 19, "01");
        dueFault("r1a1010a1010w02", 14);
        dueFault("r1a1010a1010w20", 13);
    }

    static void p10_WAIT_for_the_same_one_is_a_FAULT_at_the_second_figure() {
        dueFault("r1a1010w00", 9);
        dueFault("r1a1010a1010w11", 14);
        dueFault(FIVE + "w44", 29);
    }

    static void p10_WAIT_told_already_is_a_FAULT_at_the_second_figure() {
        dueFault("r1a1010a1010w01w01", 17);
        dueFault("r1a1010a1010w01w10w01", 20);
        dueFault(FIVE + "w01w02w03w04w10w12w13w01", 50);
    }

    static void p10_WAIT_the_other_way_round_is_not_told_already() {
        dueFault("r1a1010a1010w01w10", NONE);
    }

    static void p10_other_letters_behind_a_WAIT_are_a_FAULT() {
        dueGoodSigns("r1a1010a1010w01w10", 15, "w", " ");
    }

    static void p10_fault_of_text_minus_1_and_4_is_BAD() {
        dueRefused("fault(-1)", BAD, x -> x.fault(-1));
        dueRefused("fault(4)", BAD, x -> x.fault(4));
    }

    static void p10_fault_of_a_missing_TEXT_is_NOTHING() {
        dueFound("fault(3)", NOTHING, x -> x.fault(3));
    }

    static void p10_fault_leaves_all_as_it_was() {
        dueAside("no FAULT", busy(), NONE, x -> x.fault(0));
        dueAside("a FAULT at the end", busy(), 60, x -> x.fault(2));
        dueAside("a FAULT of an empty one", busy(), 0, x -> x.fault(1));
    }
}
