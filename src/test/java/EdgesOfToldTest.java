import java.math.BigInteger;
import java.util.ArrayList;
import java.util.List;

/** Boundary cases of promises 37 to 43: what is told. */
public final class EdgesOfToldTest extends Edges {
    public static void main(String[] args) throws ReflectiveOperationException {
        runCases(EdgesOfToldTest.class, 37, 43);
    }

    // ---- 37 asked

    static void p37_asked_before_anything_is_0() {
        Due.due("asked()", new RiverBureau().asked(), 0);
        Due.due("of a delta", Due.deltaOf("r1 b1010").asked(), 0);
    }

    static void p37_asked_twice_is_the_same() {
        RiverBureau x = busy();
        Due.due("asked()", x.asked(), TOLD);
        Due.due("asked() again", x.asked(), TOLD);
    }

    static void p37_asked_tells_the_latest_of_all_that_tell() {
        RiverBureau x = Due.deltaOf("r2 b1310 b1310 s1010 w20 w21");
        Due.fill(x, 0, 8, 1);
        dueAsked("lay()", x, x.lay(0, 0, 4), 1, 8);
        dueAsked("at()", x, x.at(0, 1), 1, 1);
        dueAsked("mean()", x, x.mean(0), 1, 2);
        dueAsked("arm()", x, x.arm(2, 0), 1, 2);
        dueAsked("season()", x, x.season(), 3, 7);
        dueAsked("now()", x, x.now(), 1, 3);
        dueAsked("run()", x, x.run(0), 2, 1);
        dueAsked("best()", x, x.best(2, 1), 6, 0);
        dueAsked("dies()", x, x.dies(), 2, 4);
        x.row(0, 3);
        dueAsked("fits()", x, x.fits(0), 4, 0);
        dueAsked("stalled()", x, x.stalled(), 0, 2);
    }

    static void p37_asked_stays_where_a_call_that_tells_is_refused() {
        dueRefused("lay", BAD, x -> x.lay(9, 0, 0));
        dueFound("at", BEYOND, x -> x.at(0, 9));
        dueFound("mean", NOUGHT, x -> x.mean(1));
        dueRefused("arm", BAD, x -> x.arm(0, 9));
        dueRefused("run", BAD, x -> x.run(9));
        dueRefused("best", BAD, x -> x.best(9, 0));
        dueFound("fits", SIZE, x -> x.fits(0));
        Due.due("asked() of a busy one", busy().asked(), TOLD);
    }

    static void p37_asked_stays_where_dies_is_NONE() {
        RiverBureau x = Due.deltaOf("r1 b1010");
        x.now();
        dueAsked("dies()", x, x.dies(), NONE, 1);
    }

    static void p37_asked_is_NONE_where_fits_told_so() {
        RiverBureau x = Due.deltaOf("r1 b1010");
        Due.fill(x, 0, 4);
        dueAsked("fits()", x, x.fits(0), 0, NONE);
    }

    static void p37_asked_is_left_by_all_that_tell_by_their_answer() {
        RiverBureau x = busy();
        Due.fill(x, 4, 0, 0, 0, 0, 0);
        x.at(2, 39);
        x.row(5, 3);
        x.tear(5);
        x.copy(0, 0, 2, 0, 1);
        x.text(3, 4);
        x.put(3, 0, 4);
        x.fault(0);
        x.mark(1, 1);
        x.need(0, 2);
        x.awaits(0, 1, 0);
        x.stamp(0);
        x.leave(3);
        x.undo(3);
        x.water(0);
        x.keep(0);
        x.on(0);
        x.fewest(0, 1, 3);
        x.barge(4, 3);
        x.opened(4);
        x.settle(4);
        x.loosen(3);
        x.eels(0, 1);
        x.odds(0);
        x.lots(2, 2);
        x.count(0);
        x.finding();
        x.findings(1);
        x.digest();
        x.delta(0);
        Due.due("asked()", x.asked(), TOLD);
    }

    static void p37_asked_tells_the_least_and_the_most_int() {
        RiverBureau x = new RiverBureau();
        Due.fill(x, 0, LEAST, MOST);
        dueAsked("the least", x, x.at(0, 0), 1, LEAST);
        dueAsked("the most", x, x.at(0, 1), 1, MOST);
    }

    // ---- 38 upper, 39 lower

    static void p38_upper_before_any_chances_is_0() {
        Due.due("upper()", new RiverBureau().upper(), 0);
        Due.due("of a delta", Due.deltaOf("r1 b1010").upper(), 0);
    }

    static void p38_upper_is_0_for_none_and_1_for_sure() {
        RiverBureau x = Due.deltaOf("r1 b1310 a1910");
        x.odds(0);
        Due.due("of 2, 1 is alone", x.upper(), 1);
        x.odds(1);
        Due.due("never", x.upper(), 0);
    }

    static void p38_upper_stays_where_odds_is_refused() {
        RiverBureau x = Due.deltaOf("r1 b1310");
        x.odds(0);
        x.odds(1);
        Due.due("upper()", x.upper(), 1);
    }

    static void p38_upper_tells_the_last_chances_alone() {
        RiverBureau x = Due.deltaOf("r2 a1210 a1210 a1210 a1210");
        x.odds(3);
        Due.due("7 by 16", x.upper(), 7);
        x.need(3, 9);
        Due.due("it stays", x.upper(), 7);
        x.odds(3);
        Due.due("0 by 1", x.upper(), 0);
    }

    static void p39_lower_before_any_chances_is_1() {
        Due.due("lower()", new RiverBureau().lower(), 1);
        Due.due("of a delta", Due.deltaOf("r1 b1010").lower(), 1);
    }

    static void p39_lower_is_1_for_none_and_for_sure() {
        RiverBureau x = Due.deltaOf("r9 a1910 a1010 a1010 b1010");
        x.need(0, 9);
        x.odds(1);
        Due.due("sure", x.lower(), 1);
        x.need(0, 9);
        x.odds(0);
        Due.due("two of eight", x.lower(), 8);
        RiverBureau y = Due.deltaOf("r1 a1910 a1010");
        y.odds(0);
        Due.due("never", y.lower(), 1);
    }

    static void p39_lower_is_32_at_most() {
        RiverBureau x = Due.deltaOf("r1 a1310 a1010 a1010 a1010 a1010");
        x.odds(0);
        Due.due("1 by 32", x.lower(), 32);
    }

    static void p39_lower_stays_where_odds_is_refused() {
        RiverBureau x = Due.deltaOf("r1 a1310");
        x.odds(0);
        x.odds(-1);
        Due.due("lower()", x.lower(), 2);
    }

    // ---- 40 count

    static void p40_count_of_minus_1_and_of_10_is_BAD() {
        dueRefused("count(-1)", BAD, x -> x.count(-1));
        dueRefused("count(10)", BAD, x -> x.count(10));
        dueRefused("count(LEAST)", BAD, x -> x.count(LEAST));
        dueRefused("count(MOST)", BAD, x -> x.count(MOST));
    }

    static void p40_count_of_0_to_9_without_anything_is_0() {
        for (int what = 0; what <= 9; what++) {
            Due.due("count(" + what + ")", new RiverBureau().count(what), 0);
        }
    }

    static void p40_count_of_0_to_9_of_a_full_object() {
        RiverBureau x = Due.deltaOf("r9 s1010 l1010 b1010 m1010 s1010");
        for (int r = 0; r <= 5; r++) {
            x.row(r, r);
        }
        for (int t = 1; t <= 3; t++) {
            x.text(t, t);
        }
        passSeasons(x, 60);
        for (int k = 0; k <= 2; k++) {
            x.keep(k);
        }
        int[] want = {5, 27, 60, 3, 2, 3, 6, 4, 3, 3 * 5 + 2 * 60};
        for (int what = 0; what <= 9; what++) {
            Due.due("count(" + what + ")", x.count(what), want[what]);
        }
    }

    static void p40_count_of_SILTY_ones_counts_DEAD_ones_too() {
        RiverBureau x = Due.deltaOf("r1 s1010 l1010 a1010");
        passSeasons(x, 5);
        Due.due("dead", x.count(3), 2);
        Due.due("silty", x.count(5), 2);
    }

    static void p40_count_of_BARGES_goes_with_them() {
        RiverBureau x = Due.deltaOf("r1 b1010 m1010 b1010 m1010 b1010");
        for (int i = 0; i < 5; i++) {
            Due.due("barges", x.count(4), 5 - i);
            x.leave(i);
        }
        Due.due("none", x.count(4), 0);
        x.stamp(0);
        Due.due("an open arm is no barge", x.count(4), 0);
    }

    static void p40_count_of_HARVESTS_of_5_ARMS_in_60_SEASONS() {
        RiverBureau x = Due.deltaOf("r9 b1010 b1010 b1010 b1010 b1010");
        passSeasons(x, 60);
        Due.due("count(9)", x.count(9), 300);
        x.undo(0);
        Due.due("undone", x.count(9), 0);
    }

    static void p40_count_of_empty_ROWS_and_TEXTS() {
        RiverBureau x = new RiverBureau();
        x.row(0, 0);
        x.text(0, 0);
        Due.due("rows", x.count(6), 1);
        Due.due("texts", x.count(7), 1);
        x.row(0, 4);
        x.text(0, 4);
        Due.due("rows made anew", x.count(6), 1);
        Due.due("texts made anew", x.count(7), 1);
    }

    // ---- 41 finding, 42 findings

    static void p41_finding_before_any_is_0() {
        Due.due("finding()", new RiverBureau().finding(), 0);
        Due.due("of a delta", Due.deltaOf("r1 b1010").finding(), 0);
    }

    static void p41_finding_of_each_of_1_to_5() {
        RiverBureau x = busy();
        x.at(3, 0);
        Due.due("NOTHING", x.finding(), 1);
        x.at(0, 3);
        Due.due("BEYOND", x.finding(), 2);
        x.mark(0, 1);
        Due.due("UNLIKE", x.finding(), 3);
        x.mean(1);
        Due.due("NOUGHT", x.finding(), 4);
        x.row(0, -1);
        Due.due("SIZE", x.finding(), 5);
    }

    static void p41_finding_stays_where_others_refuse_or_answer() {
        RiverBureau x = busy();
        x.mark(0, 1);
        x.at(9, 0);
        Due.due("BAD", x.finding(), 3);
        x.leave(0);
        Due.due("STATE", x.finding(), 3);
        x.eels(0, 4);
        Due.due("NONE", x.finding(), 3);
        x.season();
        Due.due("none refused", x.finding(), 3);
        RiverBureau y = Due.deltaOf("r1 b1010");
        y.mean(1);
        passSeasons(y, 60);
        y.season();
        Due.due("FULL", y.finding(), 1);
    }

    static void p42_findings_of_0_and_of_6_is_BAD() {
        dueRefused("findings(0)", BAD, x -> x.findings(0));
        dueRefused("findings(6)", BAD, x -> x.findings(6));
        dueRefused("findings(-1)", BAD, x -> x.findings(-1));
        dueRefused("findings(LEAST)", BAD, x -> x.findings(LEAST));
        dueRefused("findings(MOST)", BAD, x -> x.findings(MOST));
    }

    static void p42_findings_of_1_and_of_5_before_any_are_0() {
        for (int f = 1; f <= 5; f++) {
            Due.due("findings(" + f + ")", new RiverBureau().findings(f), 0);
        }
    }

    static void p42_findings_count_each_answer() {
        RiverBureau x = new RiverBureau();
        for (int k = 1; k <= 500; k++) {
            x.tear(0);
        }
        Due.due("NOTHING", x.findings(1), 500);
        for (int f = 2; f <= 5; f++) {
            Due.due("findings(" + f + ")", x.findings(f), 0);
        }
    }

    static void p42_findings_do_not_count_other_refusals() {
        RiverBureau x = busy();
        x.at(9, 0);
        x.leave(0);
        x.dies();
        int[] want = {0, 0, 0, 1, 0};
        for (int f = 1; f <= 5; f++) {
            Due.due("findings(" + f + ")", x.findings(f), want[f - 1]);
        }
    }

    // ---- 43 digest

    /** The digest of values by numbers that know no end, cut to 64 bits in the end. */
    private static long digestOf(List<Integer> values) {
        BigInteger h = BigInteger.valueOf(17);
        for (int v : values) {
            h = h.multiply(BigInteger.valueOf(31)).add(BigInteger.valueOf(v));
        }
        return h.longValue();
    }

    private static void addAll(List<Integer> values, int... more) {
        for (int v : more) {
            values.add(v);
        }
    }

    static void p43_digest_of_a_new_object_with_all_missing() {
        List<Integer> values = new ArrayList<>();
        addAll(values, 0, 0, 0, 0, 0, 0, 0, 0, 0, 0);
        addAll(values, 0);
        addAll(values, -1, -1, -1);
        addAll(values, -1, -1, -1, -1, -1, -1);
        addAll(values, -1, -1, -1, -1);
        Due.due("digest()", new RiverBureau().digest(), digestOf(values));
    }

    static void p43_digest_of_empty_ROWS_and_TEXTS() {
        RiverBureau x = new RiverBureau();
        x.row(0, 0);
        x.row(5, 0);
        x.text(0, 0);
        x.text(3, 0);
        List<Integer> values = new ArrayList<>();
        addAll(values, 0, 0, 0, 0, 0, 0, 2, 2, 0, 0);
        addAll(values, 0);
        addAll(values, -1, -1, -1);
        addAll(values, 0, -1, -1, -1, -1, 0);
        addAll(values, 0, -1, -1, 0);
        Due.due("digest()", x.digest(), digestOf(values));
    }

    static void p43_digest_of_the_least_and_the_most_runs_over() {
        RiverBureau x = new RiverBureau();
        List<Integer> values = new ArrayList<>();
        addAll(values, 0, 0, 0, 0, 0, 0, 6, 1, 0, 0);
        addAll(values, 0);
        addAll(values, -1, -1, -1);
        for (int r = 0; r <= 5; r++) {
            x.row(r, 40);
            values.add(40);
            for (int i = 0; i < 40; i++) {
                int v = i % 2 == 0 ? MOST - r : LEAST + r;
                x.lay(r, i, v);
                values.add(v);
            }
        }
        x.text(2, 60);
        addAll(values, -1, -1, 60);
        for (int i = 0; i < 60; i++) {
            x.put(2, i, 100 + i);
            values.add((int) (byte) (100 + i));
        }
        values.add(-1);
        Due.due("digest()", x.digest(), digestOf(values));
    }

    static void p43_digest_of_a_DELTA_with_60_DEEDS_kept_thrice() {
        RiverBureau x = Due.deltaOf("r9s1010b1310l1110w01w02");
        x.awaits(2, 0, 1);
        x.keep(2);
        passSeasons(x, 59);
        x.keep(0);
        x.leave(1);
        List<Integer> values = new ArrayList<>();
        addAll(values, 3, 27, 60, 2, 0, 2, 0, 1, 2, 5 + 59 + 5);
        addAll(values, 59);
        addAll(values, 2, 1, 0, 0, 0, 9, 5, 0, 6);
        addAll(values, 3, 1, 3, 0, 0, 0, 59, 1, 0);
        addAll(values, 4, 1, 1, 0, 0, 9, 5, 0, 1);
        addAll(values, 59, -1, 0);
        addAll(values, -1, -1, -1, -1, -1, -1);
        values.add(23);
        for (char c : "r9s1010b1310l1110w01w02".toCharArray()) {
            values.add((int) c);
        }
        addAll(values, -1, -1, -1);
        Due.due("digest()", x.digest(), digestOf(values));
    }

    static void p43_digest_of_5_ARMS() {
        RiverBureau x = Due.deltaOf("r1a1910t2820s3730b4641m5550");
        List<Integer> values = new ArrayList<>();
        addAll(values, 5, 3, 0, 0, 2, 1, 0, 1, 0, 0);
        addAll(values, 0);
        addAll(values, 0, 1, 9, 0, 0, 0, 0, 1, 0);
        addAll(values, 1, 2, 8, 0, 0, 0, 0, 1, 0);
        addAll(values, 2, 3, 7, 0, 0, 0, 0, 1, 0);
        addAll(values, 3, 4, 6, 1, 0, 0, 0, 0, 0);
        addAll(values, 5, 5, 5, 1, 0, 0, 0, 0, 0);
        addAll(values, -1, -1, -1);
        addAll(values, -1, -1, -1, -1, -1, -1);
        values.add(27);
        for (char c : "r1a1910t2820s3730b4641m5550".toCharArray()) {
            values.add((int) c);
        }
        addAll(values, -1, -1, -1);
        Due.due("digest()", x.digest(), digestOf(values));
    }

    static void p43_digest_only_tells() {
        RiverBureau x = busy();
        long digest = x.digest();
        Due.due("again", x.digest(), digest);
        Due.due("asked()", x.asked(), TOLD);
    }

    static void p43_digest_without_what_was_told_or_found() {
        RiverBureau x = busy();
        long digest = x.digest();
        x.at(0, 0);
        x.at(3, 0);
        x.odds(0);
        Due.due("digest()", x.digest(), digest);
    }
}
