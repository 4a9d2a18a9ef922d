/** Promises 29 and 30: who opened, by the salt. */
public final class SaltTest {
    private static final int NOTHING = 1, SIZE = 5;

    public static void main(String[] args) {
        fitting();
        fittingByNoStamp();
        refused();
        Due.end();
    }

    private static void fitting() {
        RiverBureau x = Due.deltaOf("r1 a1310 t1210 a1010");
        Due.fill(x, 0, 0, 2, 0);
        Due.due("0 alone", x.fits(0), 1);
        Due.due("the first", x.asked(), 1);
        Due.due("stamped", x.opened(0), 1);
        Due.fill(x, 0, 1, 0, 0);
        Due.due("1 alone, or 1 with 2 and the rest", x.fits(0), 2);
        Due.due("the first", x.asked(), 2);
        Due.due("stamped", x.opened(0), 2);
        Due.fill(x, 0, 1, 2, 0);
        Due.due("none, or 2, or 0 and another, or all", x.fits(0), 5);
        Due.due("the first", x.asked(), 0);
        Due.due("stamped by each", x.opened(0), 0);
        Due.fill(x, 0, 0, 0, 0);
        Due.due("none fits", x.fits(0), 0);
        Due.due("no first", x.asked(), RiverBureau.NONE);
        Due.due("none stamped", x.opened(0), 0);
    }

    private static void fittingByNoStamp() {
        RiverBureau x = Due.deltaOf("r1 a1310 a1021 b1010 w01");
        Due.fill(x, 0, 1, 0, 0);
        Due.due("no stamp can be: every set fits", x.fits(0), 8);
        Due.due("the first", x.asked(), 0);
        Due.due("stamped", x.opened(0), 0);
        x = Due.deltaOf("r1 a1310 a1021");
        Due.fill(x, 0, 0, 0);
        Due.due("with 1, which is no stamp, and without", x.fits(0), 2);
        Due.due("the first", x.asked(), 1);
        Due.due("stamped by each", x.opened(0), 1);
        RiverBureau y = Due.deltaOf("r1 a1010");
        Due.fill(y, 0, 0);
        Due.due("with it and without", y.fits(0), 2);
        Due.due("not by each", y.opened(0), 0);
        Due.fill(x, 0, Integer.MAX_VALUE, -1);
        Due.due("no such salt", x.fits(0), 0);
    }

    private static void refused() {
        RiverBureau x = new RiverBureau();
        Due.due("fits(6)", x.fits(6), RiverBureau.BAD);
        Due.due("fits(-1)", x.fits(-1), RiverBureau.BAD);
        Due.due("fits(0)", x.fits(0), RiverBureau.STATE);
        Due.due("opened(6)", x.opened(6), RiverBureau.BAD);
        Due.due("opened(0)", x.opened(0), RiverBureau.STATE);
        x = Due.deltaOf("r1 a1310 a1021");
        Due.dueFinding("fits without a row", x, x.fits(0), NOTHING);
        Due.dueFinding("opened without a row", x, x.opened(0), NOTHING);
        x.row(0, 3);
        Due.dueFinding("fits: too many", x, x.fits(0), SIZE);
        Due.dueFinding("opened: too many", x, x.opened(0), SIZE);
        x.row(0, 1);
        Due.dueFinding("fits: too few", x, x.fits(0), SIZE);
        Due.due("asked() stays", x.asked(), 0);
    }
}
