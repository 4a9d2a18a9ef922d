/** Promises 16 to 23: stamps, seasons, barges that leave, undone, told, kept. */
public final class DeedsTest {
    public static void main(String[] args) {
        stamps();
        marriedStamps();
        seasons();
        saltAndSilt();
        siltOfOpenOnes();
        barges();
        undoing();
        undoingWithOtherNeeds();
        told();
        keeping();
        full();
        Due.end();
    }

    private static void stamps() {
        RiverBureau x = Due.deltaOf("r4 a3410 a2321 b5610 w01");
        Due.due("stamp(3)", x.stamp(3), RiverBureau.BAD);
        Due.due("stamp(-1)", x.stamp(-1), RiverBureau.BAD);
        Due.due("it waits", x.stamp(0), RiverBureau.STATE);
        Due.due("not its day", x.stamp(1), RiverBureau.STATE);
        Due.due("its barge is there", x.stamp(2), RiverBureau.STATE);
        x.season();
        Due.due("its day", x.stamp(1), 6);
        Due.due("it waits no more", x.stamp(0), 7);
        Due.due("shut again", x.stamp(0), 6);
        x.leave(2);
        Due.due("its barge is gone", x.stamp(2), 6);
        Due.due("deeds", x.count(2), 6);
    }

    private static void marriedStamps() {
        RiverBureau x = Due.deltaOf("r4 m1110 m1110 a1110 m1110");
        x.leave(0);
        Due.due("the one behind keeps its barge", x.stamp(0), 11);
        x.leave(1);
        Due.due("it takes the next along, too", x.stamp(1), 15);
        Due.due("shut together, no further", x.stamp(0), 12);
        Due.due("open where it is open", x.stamp(1), 14);
        Due.due("open and open: both shut", x.stamp(1), 8);
        x.stamp(2);
        Due.due("open where it was open", x.stamp(1), 14);
        x.leave(3);
        Due.due("none behind", x.stamp(3), 14);
        RiverBureau y = Due.deltaOf("r4 m1110 s1110 w10");
        y.leave(0);
        y.awaits(1, 0, 1);
        Due.due("taken along, though it waits", y.stamp(0), 3);
    }

    private static void seasons() {
        RiverBureau x = new RiverBureau();
        Due.due("no arms", x.season(), RiverBureau.STATE);
        x = Due.deltaOf("r3 b2310 b2310 b3310 l1110 a1010");
        Due.due("9 by 7: 2 2 3, and 1 each to two", x.water(0), 3);
        Due.due("the second", x.water(1), 3);
        Due.due("the third", x.water(2), 3);
        Due.due("from nowhere", x.water(3), 1);
        Due.due("shut", x.water(4), 0);
        Due.due("harvests, one of an arm that needs nothing", x.season(), 5);
        Due.due("whose", x.asked(), 31);
        x.leave(0);
        x.leave(1);
        x.leave(2);
        Due.due("without open ones", x.season(), 2);
        Due.due("whose then", x.asked(), 24);
        Due.due("all harvests", x.count(9), 7);
    }

    private static void saltAndSilt() {
        RiverBureau x = Due.deltaOf("r1 b9910 t1110 s1010 l1210 a1010");
        int[][] salts = {{1, 2, 0, 1, 0}, {2, 4, 0, 2, 0}, {3, 6, 0, 3, 0}, {4, 8, 0, 4, 0}, {5, 9, 0, 5, 0}};
        int[][] silts = {{0, 1, 2, 2, 1}, {0, 2, 4, 4, 2}, {0, 3, 6, 6, 3}, {0, 4, 8, 8, 4}, {0, 5, 9, 9, 5}};
        for (int s = 0; s < 5; s++) {
            Due.due("harvests", x.season(), 2);
            Due.due("whose", x.asked(), 20);
            for (int i = 0; i < 5; i++) {
                Due.dueArm("season " + s, x, i, 4, salts[s][i]);
                Due.dueArm("season " + s, x, i, 5, silts[s][i]);
            }
        }
        Due.due("two are dead", x.count(3), 2);
        Due.due("a dead one has no harvest", x.season(), 1);
        Due.dueArm("salt of a dead one goes on", x, 3, 4, 6);
        Due.dueArm("its silt stays", x, 3, 5, 9);
        Due.due("a dead leaky one has 1", x.water(3), 1);
        x.need(0, 3);
        Due.due("salt 6: no harvest", x.season(), 1);
        Due.dueArm("less salt", x, 0, 4, 5);
        Due.due("salt 5: no harvest", x.season(), 1);
        Due.due("salt 4: a harvest", x.season(), 2);
        Due.due("whose", x.asked(), 17);
        Due.due("shut for nine seasons", x.count(3), 4);
        Due.due("dead ones have none", x.season(), 1);
    }

    private static void siltOfOpenOnes() {
        RiverBureau x = Due.deltaOf("r1 a1010");
        x.season();
        x.season();
        x.stamp(0);
        x.season();
        Due.dueArm("open for a season", x, 0, 5, 1);
        x.season();
        x.season();
        Due.dueArm("no less than 0", x, 0, 5, 0);
    }

    private static void barges() {
        RiverBureau x = Due.deltaOf("r1 b1310 a1010 m1010");
        Due.due("leave(3)", x.leave(3), RiverBureau.BAD);
        Due.due("leave(-1)", x.leave(-1), RiverBureau.BAD);
        Due.due("none is there", x.leave(1), RiverBureau.STATE);
        Due.due("leave(0)", x.leave(0), 1);
        Due.dueArm("it is shut", x, 0, 3, 0);
        Due.due("none is there any more", x.leave(0), RiverBureau.STATE);
        Due.due("one barge", x.count(4), 1);
        x.stamp(0);
        Due.due("open, but no barge", x.leave(0), RiverBureau.STATE);
        Due.due("leave(2)", x.leave(2), 1);
        Due.due("deeds", x.count(2), 3);
    }

    private static void undoing() {
        RiverBureau x = Due.deltaOf("r1 b1310 s1010");
        long[] digests = new long[9];
        for (int d = 0; d < 8; d++) {
            digests[d] = x.digest();
            if (d == 2) {
                x.leave(0);
            } else {
                x.season();
            }
        }
        Due.due("dead", x.count(3), 1);
        Due.due("undo(9)", x.undo(9), RiverBureau.BAD);
        Due.due("undo(-1)", x.undo(-1), RiverBureau.BAD);
        digests[8] = x.digest();
        Due.due("undo none", x.undo(8), 0);
        Due.due("all stays", x.digest(), digests[8]);
        Due.due("undo one", x.undo(7), 1);
        Due.due("as it was", x.digest(), digests[7]);
        Due.due("undo five", x.undo(2), 5);
        Due.due("as it was then", x.digest(), digests[2]);
        Due.due("the barge is back", x.count(4), 1);
        Due.due("undo all", x.undo(0), 2);
        Due.due("as it was at first", x.digest(), digests[0]);
    }

    private static void undoingWithOtherNeeds() {
        RiverBureau x = Due.deltaOf("r1 b1910 a1110");
        x.season();
        x.need(0, 0);
        x.awaits(1, 0, 1);
        x.season();
        Due.dueArm("ahead of undo", x, 0, 4, 0);
        Due.due("undo(1)", x.undo(1), 1);
        Due.dueArm("the salt of its time", x, 0, 4, 1);
        Due.dueArm("the need of now", x, 0, 2, 0);
        Due.due("the wait of now", x.awaits(1, 0, 1), 1);
    }

    private static void told() {
        RiverBureau x = new RiverBureau();
        Due.due("now()", x.now(), RiverBureau.STATE);
        Due.due("water(0)", x.water(0), RiverBureau.BAD);
        x = Due.deltaOf("r9 b9110 a1010 m4110");
        Due.due("now()", x.now(), 0);
        Due.due("open", x.asked(), 5);
        Due.due("water: 27 by 13", x.water(0), 19);
        Due.due("the rest", x.water(2), 8);
        x.season();
        x.leave(0);
        Due.due("now() then", x.now(), 1);
        Due.due("open then", x.asked(), 4);
        Due.due("all of it", x.water(2), 27);
        Due.due("water(3)", x.water(3), RiverBureau.BAD);
        Due.due("water(-1)", x.water(-1), RiverBureau.BAD);
    }

    private static void keeping() {
        RiverBureau x = new RiverBureau();
        Due.due("keep(3)", x.keep(3), RiverBureau.BAD);
        Due.due("keep(-1)", x.keep(-1), RiverBureau.BAD);
        Due.due("keep(0)", x.keep(0), RiverBureau.STATE);
        Due.due("on(3)", x.on(3), RiverBureau.BAD);
        Due.dueFinding("on(0)", x, x.on(0), 1);
        x = Due.deltaOf("r1 b1310 a1210");
        x.season();
        x.leave(0);
        Due.due("keep(2)", x.keep(2), 2);
        x.need(0, 8);
        x.awaits(1, 0, 1);
        x.season();
        Due.due("keep(0)", x.keep(0), 3);
        Due.due("kept", x.count(8), 2);
        x.undo(0);
        Due.due("on(2)", x.on(2), 2);
        Due.dueArm("the need that was kept", x, 0, 2, 3);
        Due.due("the wait stays", x.awaits(1, 0, 0), 1);
        Due.due("its deeds can be undone", x.undo(1), 1);
        Due.due("the barge is back", x.count(4), 1);
        Due.due("its salt", x.now(), 1);
        Due.due("on(2) once more", x.on(2), 2);
        Due.due("on(0)", x.on(0), 3);
        Due.dueArm("its need", x, 0, 2, 8);
        Due.due("its season", x.now(), 2);
        Due.dueFinding("on(1)", x, x.on(1), 1);
        x.on(2);
        Due.due("keep over", x.keep(0), 2);
        Due.due("kept still", x.count(8), 2);
        x.season();
        Due.due("what is kept over", x.on(0), 2);
    }

    private static void full() {
        RiverBureau x = Due.deltaOf("r1 b1010 a1010 a1050");
        for (int d = 0; d < 59; d++) {
            Due.due("stamp " + d, x.stamp(1), d % 2 == 0 ? 3 : 1);
        }
        Due.due("the sixtieth", x.season() >= 0 ? 1 : 0, 1);
        Due.due("season()", x.season(), RiverBureau.FULL);
        Due.due("stamp(1)", x.stamp(1), RiverBureau.FULL);
        Due.due("leave(0)", x.leave(0), RiverBureau.FULL);
        Due.due("stamp(3)", x.stamp(3), RiverBureau.BAD);
        Due.due("stamp(2): STATE ahead of FULL", x.stamp(2), RiverBureau.STATE);
        Due.due("leave(1): STATE ahead of FULL", x.leave(1), RiverBureau.STATE);
        Due.due("deeds", x.count(2), 60);
        Due.due("keep(0)", x.keep(0), 60);
        Due.due("undo(59)", x.undo(59), 1);
        Due.due("season()", x.season() >= 0 ? 1 : 0, 1);
        Due.due("on(0)", x.on(0), 60);
        Due.due("undo(0)", x.undo(0), 60);
    }
}
