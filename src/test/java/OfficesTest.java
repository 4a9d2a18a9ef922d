/** Promises 31 to 34: debts, offices, eels. */
public final class OfficesTest {
    private static final int NOTHING = 1, NOUGHT = 4, SIZE = 5;

    public static void main(String[] args) {
        settling();
        settlingRefused();
        stalling();
        loosening();
        eels();
        Due.end();
    }

    private static void dueSettled(RiverBureau x, int payments, int... debts) {
        Due.fill(x, 0, debts);
        Due.due("settle " + java.util.Arrays.toString(debts), x.settle(0), payments);
    }

    private static void settling() {
        RiverBureau x = Due.deltaOf("r1 a1110 a1110 a1110 a1110 a1110");
        dueSettled(x, 0, 0, 0, 0, 0, 0);
        dueSettled(x, 1, 0, 7, 0, -7, 0);
        dueSettled(x, 2, 3, -3, 2, -2, 0);
        dueSettled(x, 3, 5, -2, -3, 1, -1);
        dueSettled(x, 3, 4, 3, -3, -2, -2);
        dueSettled(x, 4, 1, 1, 1, 1, -4);
        dueSettled(x, 4, 5, 6, -4, -4, -3);
        dueSettled(x, 3, 5, -5, -1, -1, 2);
        int great = Integer.MAX_VALUE;
        dueSettled(x, 4, great, great, 2, Integer.MIN_VALUE, Integer.MIN_VALUE);
    }

    private static void settlingRefused() {
        RiverBureau x = new RiverBureau();
        Due.due("settle(6)", x.settle(6), RiverBureau.BAD);
        Due.due("settle(0)", x.settle(0), RiverBureau.STATE);
        x = Due.deltaOf("r1 a1110 a1110 a1110");
        Due.dueFinding("no row", x, x.settle(0), NOTHING);
        Due.fill(x, 0, 1, 1);
        Due.dueFinding("size ahead of sum", x, x.settle(0), SIZE);
        Due.fill(x, 0, 1, 1, -1);
        Due.dueFinding("not 0 together", x, x.settle(0), NOUGHT);
        Due.fill(x, 0, Integer.MIN_VALUE, Integer.MIN_VALUE, 0);
        Due.dueFinding("0 by wrapping around alone", x, x.settle(0), NOUGHT);
    }

    private static void stalling() {
        RiverBureau x = new RiverBureau();
        Due.due("no arms", x.stalled(), 0);
        Due.due("no waits", x.asked(), 0);
        x = Due.deltaOf("r1 a1110 a1110 a1110 a1110 a1110 w01 w12 w20 w30 w43");
        Due.due("those of the circle, not who waits for it", x.stalled(), 7);
        Due.due("waits", x.asked(), 5);
        x.awaits(0, 4, 1);
        Due.due("all", x.stalled(), 31);
        Due.due("waits then", x.asked(), 6);
        x.awaits(0, 4, 0);
        x.awaits(1, 2, 0);
        Due.due("none", x.stalled(), 0);
    }

    private static void loosening() {
        RiverBureau x = new RiverBureau();
        Due.due("loosen(6)", x.loosen(6), RiverBureau.BAD);
        Due.due("loosen(-1)", x.loosen(-1), RiverBureau.BAD);
        Due.due("no arms", x.loosen(5), 0);
        Due.dueRow("no arms", x, 5);
        x = Due.deltaOf("r1 a1110 a1110 a1110 a1110 a1110 w01 w12 w20 w23 w32");
        Due.due("two circles", x.loosen(5), 2);
        Due.dueRow("two circles", x, 5, 1, 19);
        x.awaits(2, 1, 1);
        Due.due("three circles, two of them by 1 and 2", x.loosen(5), 2);
        Due.dueRow("three circles", x, 5, 10, 19);
        Due.due("they are only told", x.stalled(), 15);
        for (int i = 0; i < 5; i++) {
            for (int j = 0; j < 5; j++) {
                x.awaits(i, j, 1);
            }
        }
        Due.due("all wait for all", x.loosen(0), 10);
        Due.dueRow("all wait for all", x, 0, 1, 2, 3, 4, 10, 11, 12, 19, 20, 28);
    }

    private static void eels() {
        RiverBureau x = Due.deltaOf("r1 b1110 b1110 b1110 a1110 b1110");
        Due.due("eels(0, 1)", x.eels(0, 1), 0);
        Due.due("eels(0, 2)", x.eels(0, 2), 1);
        Due.due("eels(1, 2)", x.eels(1, 2), 0);
        Due.due("eels(2, 0)", x.eels(2, 0), 1);
        Due.due("eels(0, 4)", x.eels(0, 4), RiverBureau.NONE);
        Due.due("eels(2, 3)", x.eels(2, 3), RiverBureau.NONE);
        Due.due("eels(3, 2)", x.eels(3, 2), RiverBureau.NONE);
        x.stamp(3);
        Due.due("eels(4, 0)", x.eels(4, 0), 3);
        Due.due("eels(1, 1)", x.eels(1, 1), RiverBureau.BAD);
        Due.due("eels(0, 5)", x.eels(0, 5), RiverBureau.BAD);
        Due.due("eels(-1, 0)", x.eels(-1, 0), RiverBureau.BAD);
    }
}
