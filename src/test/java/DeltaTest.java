/** Promises 10 to 15: faults, deltas, arms, marks, needs, waits. */
public final class DeltaTest {
    private static final int NOTHING = 1, UNLIKE = 3;

    public static void main(String[] args) {
        faults();
        faultsOfWaits();
        faultsRefused();
        deltas();
        arms();
        marks();
        needs();
        waits();
        Due.end();
    }

    private static void dueFault(String text, int place) {
        Due.due("fault of '" + text + "'", Due.faultOf(text), place);
    }

    private static void faults() {
        dueFault("", 0);
        dueFault("   ", 3);
        dueFault("  r1  a1210  ", RiverBureau.NONE);
        dueFault("r9t9965s1010b1010l1010m1010", RiverBureau.NONE);
        dueFault("r1", 2);
        dueFault("r1  ", 4);
        dueFault(" x", 1);
        dueFault("a1210", 0);
        dueFault("r", 1);
        dueFault("r 1", 1);
        dueFault("r0a1210", 1);
        dueFault("r1 x1210", 3);
        dueFault("r1 r1", 3);
        dueFault("r1 A1210", 3);
        dueFault("r1a0210", 3);
        dueFault("r1a1 10", 4);
        dueFault("r1a1200", 5);
        dueFault("r1a1270", 5);
        dueFault("r1a1211", 6);
        dueFault("r1a1266", 6);
        dueFault("r1a1265", RiverBureau.NONE);
        dueFault("r1a121", 6);
        dueFault("r1a1210a", 8);
        dueFault("r1a1210a1210a1210a1210a1210a1210", 27);
        dueFault("r1a1210a1210a1210a1210a1210x", 27);
        dueFault("r1a12100", 7);
    }

    private static void faultsOfWaits() {
        String four = "r1a1210a1210a1210a1210";
        dueFault("r1w01a1210", 2);
        dueFault("r1a1210w", 8);
        dueFault("r1a1210w0", 9);
        dueFault("r1a1210w00", 9);
        dueFault("r1a1210w1", 8);
        dueFault("r1a1210w01", 9);
        dueFault(four + "w3", 24);
        dueFault(four + "w30w03", RiverBureau.NONE);
        dueFault(four + "w30 w30", 28);
        dueFault(four + "w40", 23);
        dueFault(four + "w04", 24);
        dueFault(four + "w0 1", 24);
        dueFault(four + "w01a1210", 25);
        dueFault(four + "w01 x", 26);
        dueFault(four + "w01w02w03w10w12w13w20w21", RiverBureau.NONE);
        dueFault(four + "w01w02w03w10w12w13w20w21w23", 46);
        dueFault(four + "w01w02w03w10w12w13w20w21a", 46);
    }

    private static void faultsRefused() {
        RiverBureau x = new RiverBureau();
        Due.due("fault(4)", x.fault(4), RiverBureau.BAD);
        Due.due("fault(-1)", x.fault(-1), RiverBureau.BAD);
        Due.dueFinding("fault(2)", x, x.fault(2), NOTHING);
        x.text(2, 1);
        x.put(2, 0, 114 - 256);
        Due.due("a byte that is cut to r", x.fault(2), 1);
    }

    private static void deltas() {
        RiverBureau x = new RiverBureau();
        Due.due("delta(4)", x.delta(4), RiverBureau.BAD);
        Due.dueFinding("delta(0)", x, x.delta(0), NOTHING);
        Due.write(x, 0, "r4 a3410 b5610 w01");
        Due.due("delta", x.delta(0), 2);
        x.leave(1);
        x.season();
        x.keep(0);
        x.keep(1);
        x.keep(2);
        Due.write(x, 1, "r4 a3410 b5610 w0");
        Due.due("delta with a fault", x.delta(1), RiverBureau.STATE);
        Due.due("it goes on", x.now(), 1);
        Due.due("it is kept", x.count(8), 3);
        Due.due("delta anew", x.delta(0), 2);
        Due.due("anew: season", x.now(), 0);
        Due.due("anew: open arms", x.asked(), 2);
        Due.due("anew: deeds", x.count(2), 0);
        Due.due("anew: kept", x.count(8), 0);
        Due.due("anew: harvests", x.count(9), 0);
        Due.due("anew: barges", x.count(4), 1);
        Due.due("anew: the wait", x.awaits(0, 1, 0), 1);
        Due.due("delta with the wait again", x.delta(0), 2);
        Due.due("anew: the wait again", x.awaits(0, 1, 1), 1);
        Due.write(x, 0, "r1a1210");
        Due.due("another delta", x.delta(0), 1);
        Due.due("its river", x.count(1), 3);
        x.stalled();
        Due.due("no waits of the one ahead", x.asked(), 0);
    }

    private static void arms() {
        RiverBureau x = Due.deltaOf("r4 a3410 t2321 s4210 b5610 m1110 w10 w21");
        int[][] first = {
            {0, 3, 4, 0, 0, 0, 0, 1}, {1, 2, 3, 0, 0, 0, 0, 0}, {2, 4, 2, 0, 0, 0, 0, 0},
            {3, 5, 6, 1, 0, 0, 0, 0}, {5, 1, 1, 1, 0, 0, 0, 0}};
        dueArms(x, "at first", first);
        x.season();
        int[][] then = {
            {0, 3, 4, 0, 1, 1, 0, 1}, {1, 2, 3, 0, 2, 1, 0, 0}, {2, 4, 2, 0, 1, 2, 0, 0},
            {3, 5, 6, 1, 0, 0, 1, 0}, {5, 1, 1, 1, 0, 0, 1, 0}};
        dueArms(x, "a season on", then);
        x.stamp(0);
        Due.dueArm("by its day and its wait", x, 1, 7, 1);
        Due.due("arm(5, 0)", x.arm(5, 0), RiverBureau.BAD);
        Due.due("arm(-1, 0)", x.arm(-1, 0), RiverBureau.BAD);
        Due.due("arm(0, 8)", x.arm(0, 8), RiverBureau.BAD);
        Due.due("arm(0, -1)", x.arm(0, -1), RiverBureau.BAD);
        Due.due("asked() stays", x.asked(), 1);
    }

    private static void dueArms(RiverBureau x, String when, int[][] want) {
        for (int i = 0; i < want.length; i++) {
            for (int what = 0; what < want[i].length; what++) {
                Due.dueArm(when, x, i, what, want[i][what]);
            }
        }
    }

    private static void marks() {
        RiverBureau x = Due.deltaOf("r2 t1510 s1010 m1010 l1010 b1010");
        Due.due("tidal", x.mark(0, 1), 3);
        Due.due("silty", x.mark(1, 2), 5);
        Due.due("married as barged", x.mark(2, 3), 1);
        Due.due("married takes along, though it may not be stamped", x.mark(2, 5), 3);
        Due.due("leaky as silty", x.mark(3, 2), 5);
        Due.due("leaky, shut", x.mark(3, 4), 1);
        Due.due("barged", x.mark(4, 3), 1);
        x.stamp(3);
        Due.due("leaky, open: 6 by 3", x.mark(3, 4), 2);
        x.season();
        Due.due("tidal, salt 2", x.mark(0, 1), 2);
        Due.due("silty, silt 2", x.mark(1, 2), 4);
        x.leave(2);
        Due.due("married, its barge gone", x.mark(2, 3), 0);
        x.season();
        Due.due("tidal, salt 4", x.mark(0, 1), 1);
        x.season();
        Due.due("tidal, salt 6", x.mark(0, 1), 0);
        x.season();
        x.season();
        Due.due("silty, dead", x.mark(1, 2), 0);
        marksRefused(x);
        RiverBureau z = Due.deltaOf("r1 t1310");
        z.season();
        z.stamp(0);
        z.season();
        Due.due("tidal, salt 1", z.mark(0, 1), 2);
        z.season();
        Due.due("tidal, salt 0", z.mark(0, 1), 3);
        RiverBureau y = Due.deltaOf("r1 m1010 m1010 m1010 s1010 m1010");
        Due.due("the one behind has its barge", y.mark(0, 5), RiverBureau.NONE);
        Due.due("the one behind has none", y.mark(2, 5), 3);
        Due.due("there is none behind", y.mark(4, 5), RiverBureau.NONE);
        for (int k = 0; k < 5; k++) {
            y.season();
        }
        Due.due("the one behind is dead", y.mark(2, 5), RiverBureau.NONE);
        y.leave(1);
        Due.due("the one behind has it no more", y.mark(0, 5), 1);
    }

    private static void marksRefused(RiverBureau x) {
        Due.due("mark(0, 0)", x.mark(0, 0), RiverBureau.BAD);
        Due.due("mark(0, 6)", x.mark(0, 6), RiverBureau.BAD);
        Due.due("mark(5, 1)", x.mark(5, 1), RiverBureau.BAD);
        Due.due("mark(-1, 1)", x.mark(-1, 1), RiverBureau.BAD);
        Due.dueFinding("a tidal one is no silty one", x, x.mark(0, 2), UNLIKE);
        Due.dueFinding("a silty one is no leaky one", x, x.mark(1, 4), UNLIKE);
        RiverBureau plain = Due.deltaOf("r1 a1010");
        for (int kind = 1; kind <= 5; kind++) {
            Due.dueFinding("a plain arm is no " + kind, plain, plain.mark(0, kind), UNLIKE);
        }
        Due.dueFinding("a barged one is no tidal one", x, x.mark(4, 1), UNLIKE);
        Due.dueFinding("a barged one is no married one", x, x.mark(4, 5), UNLIKE);
    }

    private static void needs() {
        RiverBureau x = Due.deltaOf("r1 b1210");
        Due.due("need", x.need(0, 9), 2);
        Due.due("need: what it was", x.need(0, 4), 9);
        Due.due("a season by the new need", x.season(), 0);
        Due.due("need(0, 3)", x.need(0, 3), 4);
        Due.due("a season by the newer need", x.season(), 1);
        Due.due("need(0, 10)", x.need(0, 10), RiverBureau.BAD);
        Due.due("need(0, -1)", x.need(0, -1), RiverBureau.BAD);
        Due.due("need(1, 0)", x.need(1, 0), RiverBureau.BAD);
        Due.dueArm("it stays", x, 0, 2, 3);
    }

    private static void waits() {
        RiverBureau x = Due.deltaOf("r1 a1210 a1210 a1210 a1210 a1210");
        Due.due("awaits", x.awaits(0, 4, 1), 0);
        Due.due("awaits again", x.awaits(0, 4, 1), 1);
        Due.due("it may not be stamped", x.stamp(0), RiverBureau.STATE);
        x.stamp(4);
        Due.due("it may be", x.stamp(0), 17);
        x.stamp(4);
        Due.due("nor be shut", x.stamp(0), RiverBureau.STATE);
        Due.due("loosened", x.awaits(0, 4, 0), 1);
        Due.due("loosened: what it is", x.awaits(0, 4, 0), 0);
        Due.due("it may be shut", x.stamp(0), 0);
        for (int i = 0; i < 5; i++) {
            for (int j = 0; j < 5; j++) {
                Due.due("more than eight waits", x.awaits(i, j, 1), i == j ? RiverBureau.BAD : 0);
            }
        }
        Due.due("awaits(0, 5, 1)", x.awaits(0, 5, 1), RiverBureau.BAD);
        Due.due("awaits(-1, 0, 1)", x.awaits(-1, 0, 1), RiverBureau.BAD);
        Due.due("awaits(0, 1, 2)", x.awaits(0, 1, 2), RiverBureau.BAD);
        Due.due("awaits(0, 1, -1)", x.awaits(0, 1, -1), RiverBureau.BAD);
    }
}
