/** Promises 37 and 40 to 43: what is told of all. */
public final class ToldTest {
    public static void main(String[] args) {
        askedBy();
        counts();
        findings();
        digests();
        Due.end();
    }

    /** Lays down a number that asked() can't tell otherwise. */
    private static void forget(RiverBureau x) {
        x.row(5, 1);
        x.lay(5, 0, 777);
        x.at(5, 0);
        Due.due("asked()", x.asked(), 777);
    }

    private static void askedBy() {
        RiverBureau x = Due.deltaOf("r2 b1310 b1310 s1010");
        Due.due("before", x.asked(), 0);
        forget(x);
        x.season();
        Due.due("season()", x.asked(), 7);
        x.now();
        Due.due("now()", x.asked(), 3);
        x.arm(2, 5);
        Due.due("arm()", x.asked(), 2);
        x.row(0, 1);
        x.lay(0, 0, 4);
        Due.due("lay()", x.asked(), 0);
        forget(x);
        x.run(0);
        Due.due("run()", x.asked(), 1);
        forget(x);
        x.best(1, 0);
        Due.due("best()", x.asked(), 0);
        x.dies();
        Due.due("dies()", x.asked(), 4);
        x.row(0, 3);
        x.fits(0);
        Due.due("fits()", x.asked(), 0);
        x.lay(0, 0, 9);
        x.fits(0);
        Due.due("fits(): NONE", x.asked(), RiverBureau.NONE);
        x.stalled();
        Due.due("stalled()", x.asked(), 0);
        x.mean(0);
        Due.due("mean()", x.asked(), 3);
        notAskedBy(x);
    }

    private static void notAskedBy(RiverBureau x) {
        forget(x);
        x.fewest(0, 1, 0);
        x.barge(0, 3);
        x.opened(0);
        x.settle(0);
        x.loosen(0);
        x.eels(0, 1);
        x.odds(0);
        x.lots(1, 9);
        x.water(0);
        x.mark(2, 2);
        x.need(0, 3);
        x.awaits(0, 1, 0);
        x.stamp(2);
        x.keep(0);
        x.on(0);
        x.undo(0);
        x.leave(0);
        x.copy(5, 0, 5, 0, 1);
        x.put(0, 0, 114);
        x.count(9);
        x.digest();
        x.findings(1);
        x.at(5, 1);
        x.at(4, 0);
        x.arm(9, 0);
        x.run(9);
        x.best(9, 0);
        Due.due("asked() stays", x.asked(), 777);
    }

    private static void counts() {
        RiverBureau x = new RiverBureau();
        Due.due("count(10)", x.count(10), RiverBureau.BAD);
        Due.due("count(-1)", x.count(-1), RiverBureau.BAD);
        x = Due.deltaOf("r7 s1010 l1010 b1010 m1010 a1010");
        x.row(0, 0);
        x.row(4, 2);
        x.text(2, 0);
        for (int s = 0; s < 5; s++) {
            x.season();
        }
        x.keep(2);
        x.leave(3);
        int[] want = {5, 21, 6, 2, 1, 2, 2, 2, 1, 25};
        for (int what = 0; what <= 9; what++) {
            Due.due("count(" + what + ")", x.count(what), want[what]);
        }
    }

    private static void findings() {
        RiverBureau x = Due.deltaOf("r7 s1010");
        Due.due("before any", x.finding(), 0);
        Due.due("findings(0)", x.findings(0), RiverBureau.BAD);
        Due.due("findings(6)", x.findings(6), RiverBureau.BAD);
        x.at(0, 0);
        x.at(0, 0);
        x.row(0, 0);
        x.at(0, 0);
        x.mark(0, 1);
        x.mark(0, 3);
        x.mark(0, 4);
        x.mean(0);
        x.settle(0);
        int[] want = {2, 1, 3, 1, 1};
        for (int f = 1; f <= 5; f++) {
            Due.due("findings(" + f + ")", x.findings(f), want[f - 1]);
        }
        Due.due("the latest", x.finding(), 5);
        x.at(9, 0);
        x.season();
        Due.due("the latest stays", x.finding(), 5);
    }

    private static long mixed(long... values) {
        long h = 17;
        for (long v : values) {
            h = 31 * h + v;
        }
        return h;
    }

    private static void digests() {
        RiverBureau x = new RiverBureau();
        Due.due("new", x.digest(), mixed(0, 0, 0, 0, 0, 0, 0, 0, 0, 0, 0, -1, -1, -1, -1, -1, -1, -1, -1, -1, -1, -1, -1, -1));
        Due.write(x, 1, "r1b1210l1110w10");
        x.delta(1);
        x.put(1, 14, 200);
        x.season();
        x.keep(1);
        x.leave(0);
        x.row(3, 2);
        x.lay(3, 1, -5);
        Due.due("of a delta", x.digest(), mixed(
            2, 3, 2, 0, 0, 1, 1, 1, 1, 2, 1,
            3, 1, 2, 0, 0, 0, 1, 1, 0,
            4, 1, 1, 0, 0, 2, 1, 0, 1,
            -1, 1, -1,
            -1, -1, -1, 2, 0, -5, -1, -1,
            -1, 15, 114, 49, 98, 49, 50, 49, 48, 108, 49, 49, 49, 48, 119, 49, -56, -1, -1));
    }
}
