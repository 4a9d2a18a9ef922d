/** Promises 1 to 9: a new object, rows and texts. */
public final class RowsTest {
    private static final int NOTHING = 1, BEYOND = 2, NOUGHT = 4, SIZE = 5;

    public static void main(String[] args) {
        newObject();
        rowsMadeAndLaid();
        rowsRefused();
        tearing();
        copying();
        means();
        textsPut();
        textsRefused();
        Due.end();
    }

    private static void newObject() {
        RiverBureau x = new RiverBureau();
        for (int what = 0; what <= 9; what++) {
            Due.due("new: count(" + what + ")", x.count(what), 0);
        }
        for (int r = 0; r < 6; r++) {
            Due.dueFinding("new: at(" + r + ", 0)", x, x.at(r, 0), NOTHING);
        }
        for (int t = 0; t < 4; t++) {
            Due.dueFinding("new: fault(" + t + ")", x, x.fault(t), NOTHING);
        }
        Due.due("new: now()", x.now(), RiverBureau.STATE);
        Due.due("new: asked()", x.asked(), 0);
    }

    private static void rowsMadeAndLaid() {
        RiverBureau x = new RiverBureau();
        Due.due("row(5, 40)", x.row(5, 40), 40);
        Due.due("row(0, 0)", x.row(0, 0), 0);
        Due.due("lay", x.lay(5, 39, -7), 1);
        Due.due("lay: it was 0", x.asked(), 0);
        Due.due("lay again", x.lay(5, 39, Integer.MIN_VALUE), 1);
        Due.due("lay again: it was -7", x.asked(), -7);
        Due.due("at", x.at(5, 39), 1);
        Due.due("at: it is", x.asked(), Integer.MIN_VALUE);
        Due.due("row anew", x.row(5, 40), 40);
        Due.due("at anew", x.at(5, 39), 1);
        Due.due("at anew: it is 0", x.asked(), 0);
        Due.due("row shorter", x.row(5, 2), 2);
        Due.dueRow("row shorter", x, 5, 0, 0);
        Due.due("rows", x.count(6), 2);
    }

    private static void rowsRefused() {
        RiverBureau x = new RiverBureau();
        Due.due("row(-1, 1)", x.row(-1, 1), RiverBureau.BAD);
        Due.due("row(6, 1)", x.row(6, 1), RiverBureau.BAD);
        Due.due("row(6, -1)", x.row(6, -1), RiverBureau.BAD);
        Due.due("row(0, 41)", x.row(0, 41), RiverBureau.BAD);
        Due.dueFinding("row(0, -1)", x, x.row(0, -1), SIZE);
        Due.due("no row came of that", x.count(6), 0);
        Due.due("lay(6, 0, 0)", x.lay(6, 0, 0), RiverBureau.BAD);
        Due.due("lay(-1, 0, 0)", x.lay(-1, 0, 0), RiverBureau.BAD);
        Due.dueFinding("lay(3, 9, 0)", x, x.lay(3, 9, 0), NOTHING);
        Due.due("at(6, 0)", x.at(6, 0), RiverBureau.BAD);
        x.row(3, 2);
        Due.dueFinding("lay(3, 2, 0)", x, x.lay(3, 2, 0), BEYOND);
        Due.dueFinding("lay(3, -1, 0)", x, x.lay(3, -1, 0), BEYOND);
        Due.dueFinding("at(3, 2)", x, x.at(3, 2), BEYOND);
        Due.dueFinding("at(3, min)", x, x.at(3, Integer.MIN_VALUE), BEYOND);
        Due.dueFinding("row(3, -1)", x, x.row(3, -1), SIZE);
        Due.dueRow("a refused row stays", x, 3, 0, 0);
    }

    private static void tearing() {
        RiverBureau x = new RiverBureau();
        x.row(2, 3);
        Due.due("tear(2)", x.tear(2), 1);
        Due.dueFinding("torn", x, x.at(2, 0), NOTHING);
        Due.dueFinding("tear twice", x, x.tear(2), NOTHING);
        Due.due("tear(6)", x.tear(6), RiverBureau.BAD);
        Due.due("tear(-1)", x.tear(-1), RiverBureau.BAD);
        Due.due("no rows", x.count(6), 0);
    }

    private static void copying() {
        RiverBureau x = new RiverBureau();
        Due.fill(x, 0, 1, 2, 3, 4, 5);
        Due.fill(x, 1, 9, 9, 9);
        Due.due("copy", x.copy(0, 1, 1, 0, 2), 1);
        Due.dueRow("copy", x, 1, 2, 3, 9);
        Due.due("copy up within", x.copy(0, 0, 0, 1, 4), 1);
        Due.dueRow("copy up within", x, 0, 1, 1, 2, 3, 4);
        Due.due("copy down within", x.copy(0, 2, 0, 0, 3), 1);
        Due.dueRow("copy down within", x, 0, 2, 3, 4, 3, 4);
        Due.due("copy none at the end", x.copy(0, 5, 1, 3, 0), 1);
        Due.dueFinding("copy too many", x, x.copy(0, 2, 1, 0, 4), BEYOND);
        Due.dueFinding("copy from below", x, x.copy(0, -1, 1, 0, 1), BEYOND);
        Due.dueFinding("copy to below", x, x.copy(0, 0, 1, -1, 1), BEYOND);
        Due.dueFinding("copy to beyond", x, x.copy(0, 0, 1, 2, 2), BEYOND);
        Due.dueFinding("copy very far", x, x.copy(0, Integer.MAX_VALUE, 1, 0, Integer.MAX_VALUE), BEYOND);
        Due.dueFinding("copy from a missing one", x, x.copy(4, 0, 1, 0, 99), NOTHING);
        Due.dueFinding("copy to a missing one", x, x.copy(0, 99, 4, 0, 1), NOTHING);
        Due.dueFinding("copy fewer than none", x, x.copy(4, 0, 1, 0, -1), SIZE);
        Due.due("copy(6, ..)", x.copy(6, 0, 0, 0, -1), RiverBureau.BAD);
        Due.due("copy(.., -1, ..)", x.copy(0, 0, -1, 0, 1), RiverBureau.BAD);
        Due.dueRow("refused copies change nothing", x, 1, 2, 3, 9);
    }

    private static void means() {
        RiverBureau x = new RiverBureau();
        Due.fill(x, 0, 3, 4, 4);
        Due.due("mean", x.mean(0), 1);
        Due.due("mean is cut", x.asked(), 3);
        Due.fill(x, 0, -3, -4);
        x.mean(0);
        Due.due("mean below 0 is cut", x.asked(), -3);
        Due.fill(x, 0, Integer.MAX_VALUE, Integer.MAX_VALUE, Integer.MAX_VALUE);
        x.mean(0);
        Due.due("mean of great ones", x.asked(), Integer.MAX_VALUE);
        Due.fill(x, 0, 8);
        x.mean(0);
        Due.due("mean of one", x.asked(), 8);
        x.row(1, 0);
        Due.dueFinding("mean of none", x, x.mean(1), NOUGHT);
        Due.dueFinding("mean of a missing one", x, x.mean(2), NOTHING);
        Due.due("mean(6)", x.mean(6), RiverBureau.BAD);
        Due.due("asked() stays", x.asked(), 8);
    }

    private static void textsPut() {
        RiverBureau x = new RiverBureau();
        Due.due("text(3, 60)", x.text(3, 60), 60);
        Due.due("put: it was a blank", x.put(3, 59, 127), 1032);
        Due.due("put: it was 127", x.put(3, 59, 128), 1127);
        Due.due("put: 128 is cut to -128", x.put(3, 59, 255), 872);
        Due.due("put: 255 is cut to -1", x.put(3, 59, 256 + 65), 999);
        Due.due("put: 321 is cut to 65", x.put(3, 59, 0), 1065);
        Due.due("text anew", x.text(3, 60), 60);
        Due.due("put: a blank anew", x.put(3, 59, 0), 1032);
        Due.due("text(0, 0)", x.text(0, 0), 0);
        Due.due("texts", x.count(7), 2);
    }

    private static void textsRefused() {
        RiverBureau x = new RiverBureau();
        Due.due("text(4, 1)", x.text(4, 1), RiverBureau.BAD);
        Due.due("text(-1, 1)", x.text(-1, 1), RiverBureau.BAD);
        Due.due("text(0, 61)", x.text(0, 61), RiverBureau.BAD);
        Due.due("text(4, -1)", x.text(4, -1), RiverBureau.BAD);
        Due.dueFinding("text(0, -1)", x, x.text(0, -1), SIZE);
        Due.due("put(4, 0, 0)", x.put(4, 0, 0), RiverBureau.BAD);
        Due.dueFinding("put to a missing one", x, x.put(0, 0, 0), NOTHING);
        x.text(0, 2);
        Due.dueFinding("put(0, 2, 0)", x, x.put(0, 2, 0), BEYOND);
        Due.dueFinding("put(0, -1, 0)", x, x.put(0, -1, 0), BEYOND);
    }
}
