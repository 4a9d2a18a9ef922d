/** Promises 24 to 28: plans judged and sought, deaths foreseen, what would have been without the barge. */
public final class PlansTest {
    private static final int NOTHING = 1, UNLIKE = 3, SIZE = 5;

    public static void main(String[] args) {
        running();
        runningRefused();
        bestPlans();
        fewestStamps();
        deaths();
        withoutTheBarge();
        aside();
        Due.end();
    }

    private static void running() {
        RiverBureau x = Due.deltaOf("r2 a1310 a1321 b1310 w10");
        Due.fill(x, 0, 2, 1, 3);
        Due.due("run: 2 alone, then 0 and 2, then 2 alone", x.run(0), 1 + 2 + 1);
        Due.due("stamps: none, one, one (1 has not its day)", x.asked(), 2);
        Due.fill(x, 0, 1, 3);
        Due.due("run: 0 shut ahead of 1, which then waits", x.run(0), 2 + 1);
        Due.due("stamps", x.asked(), 2);
        Due.fill(x, 0, 1, 2);
        Due.due("run: 6 by three", x.run(0), 2 + 0);
        Due.due("stamps of both", x.asked(), 2);
        x.row(0, 12);
        Due.due("run of twelve", x.run(0), 12);
        Due.due("no stamps", x.asked(), 0);
        x.row(0, 0);
        Due.due("run of none", x.run(0), 0);
    }

    private static void runningRefused() {
        RiverBureau x = new RiverBureau();
        Due.due("run(6)", x.run(6), RiverBureau.BAD);
        Due.due("run(-1)", x.run(-1), RiverBureau.BAD);
        Due.due("no arms ahead of no row", x.run(0), RiverBureau.STATE);
        x = Due.deltaOf("r2 a1310 b1310");
        Due.dueFinding("no row", x, x.run(0), NOTHING);
        x.row(0, 13);
        x.lay(0, 0, 77);
        Due.dueFinding("size ahead of sets", x, x.run(0), SIZE);
        Due.fill(x, 0, 3, 4);
        Due.dueFinding("no such set", x, x.run(0), UNLIKE);
        Due.fill(x, 0, 4, 3);
        Due.dueFinding("no such set at first", x, x.run(0), UNLIKE);
        Due.fill(x, 0, 3, -1);
        Due.dueFinding("no set below 0", x, x.run(0), UNLIKE);
    }

    private static void bestPlans() {
        RiverBureau x = Due.deltaOf("r1 a1310 b1110");
        Due.due("best of none", x.best(0, 5), 0);
        Due.due("no stamps", x.asked(), 0);
        Due.dueRow("best of none", x, 5);
        Due.due("best of three", x.best(3, 5), 3);
        Due.due("left as it is", x.asked(), 0);
        Due.dueRow("best of three", x, 5, 0, 0, 0);
        x = Due.deltaOf("r2 a1310 a1321 a1621");
        Due.due("3 and 3 in the second season", x.best(2, 1), 3);
        Due.due("two stamps", x.asked(), 2);
        Due.dueRow("the first of such plans", x, 1, 1, 2);
        x = Due.deltaOf("r1 a1110 a1110 a1110 a1110 a1110");
        Due.due("three at once", x.best(3, 1), 9);
        Due.due("three stamps", x.asked(), 3);
        Due.dueRow("the first three", x, 1, 7, 0, 0);
        Due.due("best(4, 0)", x.best(4, 0), RiverBureau.BAD);
        Due.due("best(-1, 0)", x.best(-1, 0), RiverBureau.BAD);
        Due.due("best(1, 6)", x.best(1, 6), RiverBureau.BAD);
        Due.due("best(1, -1)", x.best(1, -1), RiverBureau.BAD);
        Due.due("no arms", new RiverBureau().best(1, 1), RiverBureau.STATE);
    }

    private static void fewestStamps() {
        RiverBureau x = Due.deltaOf("r1 a1310 a1210 w10");
        Due.due("fewest of none", x.fewest(0, 0, 3), RiverBureau.NONE);
        Due.dueFinding("no row of that", x, x.at(3, 0), NOTHING);
        Due.due("its own stamp", x.fewest(0, 3, 3), 1);
        Due.dueRow("as late as can be", x, 3, 0, 0, 1);
        Due.due("all of it is not to be had but by shutting the other", x.fewest(1, 1, 3), RiverBureau.NONE);
        Due.dueRow("the row stays", x, 3, 0, 0, 1);
        Due.due("open both, then shut the first", x.fewest(1, 2, 3), 3);
        Due.dueRow("0 is stamped ahead of 1, which waits for it", x, 3, 3, 1);
        Due.due("fewest(2, 1, 0)", x.fewest(2, 1, 0), RiverBureau.BAD);
        Due.due("fewest(-1, 1, 0)", x.fewest(-1, 1, 0), RiverBureau.BAD);
        Due.due("fewest(0, 4, 0)", x.fewest(0, 4, 0), RiverBureau.BAD);
        Due.due("fewest(0, -1, 0)", x.fewest(0, -1, 0), RiverBureau.BAD);
        Due.due("fewest(0, 1, 6)", x.fewest(0, 1, 6), RiverBureau.BAD);
        Due.due("no arms", new RiverBureau().fewest(0, 1, 0), RiverBureau.BAD);
    }

    private static void deaths() {
        RiverBureau x = Due.deltaOf("r1 a1010 l1010 s1010 b1010");
        Due.due("dies", x.dies(), 1);
        Due.due("in five", x.asked(), 5);
        for (int s = 0; s < 4; s++) {
            x.season();
        }
        Due.due("dies then", x.dies(), 1);
        Due.due("in one", x.asked(), 1);
        x.season();
        Due.due("dead ones aside", x.dies(), 0);
        Due.due("in four", x.asked(), 4);
        x.stamp(0);
        x.lay(0, 0, 0);
        Due.due("none dies", x.dies(), RiverBureau.NONE);
        Due.due("asked() stays", x.asked(), 4);
        Due.due("no arms", new RiverBureau().dies(), RiverBureau.STATE);
    }

    private static void withoutTheBarge() {
        RiverBureau x = Due.deltaOf("r1 b1210 b1310 a1110");
        Due.due("with it: one (by 2 of 3); without: another", x.barge(0, 3), 100);
        Due.due("without the second", x.barge(1, 3), 100);
        Due.due("none at once", x.barge(1, 0), 100);
        Due.due("no barge", x.barge(2, 12), 100);
        x.need(1, 9);
        Due.due("fewer", x.barge(0, 12), 88);
        x.need(1, 1);
        x.need(0, 3);
        Due.due("without: as many of its own", x.barge(1, 4), 100);
        x.need(0, 2);
        x.need(2, 0);
        Due.due("both had, one is left", x.barge(1, 5), 95);
        x.need(0, 9);
        x.need(1, 3);
        Due.due("more", x.barge(0, 6), 106);
        Due.due("barge(3, 0)", x.barge(3, 0), RiverBureau.BAD);
        Due.due("barge(-1, 0)", x.barge(-1, 0), RiverBureau.BAD);
        Due.due("barge(0, 13)", x.barge(0, 13), RiverBureau.BAD);
        Due.due("barge(0, -1)", x.barge(0, -1), RiverBureau.BAD);
    }

    private static void aside() {
        RiverBureau x = Due.deltaOf("r2 a1310 a1321 b1310 m1110 l1110");
        x.season();
        Due.fill(x, 0, 31, 31, 7);
        Due.fill(x, 1, 0, 0, 0);
        long digest = x.digest();
        x.run(0);
        x.dies();
        x.barge(2, 12);
        x.odds(1);
        x.fits(0);
        Due.due("nothing is done", x.digest(), digest);
        x.best(3, 1);
        x.fewest(1, 3, 1);
        Due.due("nothing but rows", x.now(), 1);
        Due.due("no deeds", x.count(2), 1);
    }
}
