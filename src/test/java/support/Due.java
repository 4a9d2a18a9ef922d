/** What the tests share: answers that are due, and deltas laid down from a text. */
final class Due {
    private static int checked = 0;
    private static int wrong = 0;
    private static String within = "";

    private Due() {
    }

    /** What is not as due is told along with the case's name from here on. */
    static void enterCase(String name) {
        within = name.isEmpty() ? "" : name + ": ";
    }

    static int checkedSoFar() {
        return checked;
    }

    static void due(String call, long got, long want) {
        checked++;
        if (got != want) {
            wrong++;
            System.out.println(within + call + " answered " + got + ", due is " + want);
        }
    }

    static void end() {
        System.out.println(checked + " answers, " + wrong + " not as due");
        if (wrong != 0 || checked == 0) {
            System.exit(1);
        }
    }

    static void write(RiverBureau x, int t, String text) {
        due("text of '" + text + "'", x.text(t, text.length()), text.length());
        for (int i = 0; i < text.length(); i++) {
            x.put(t, i, text.charAt(i));
        }
    }

    static int faultOf(String text) {
        RiverBureau x = new RiverBureau();
        write(x, 0, text);
        return x.fault(0);
    }

    static RiverBureau deltaOf(String text) {
        RiverBureau x = new RiverBureau();
        write(x, 0, text);
        if (x.delta(0) < 1) {
            due("delta of '" + text + "'", 0, 1);
        }
        return x;
    }

    static void fill(RiverBureau x, int r, int... values) {
        due("row(" + r + ", " + values.length + ")", x.row(r, values.length), values.length);
        for (int i = 0; i < values.length; i++) {
            due("lay(" + r + ", " + i + ")", x.lay(r, i, values[i]), 1);
        }
    }

    static void dueRow(String call, RiverBureau x, int r, int... values) {
        for (int i = 0; i < values.length; i++) {
            due(call + ": at(" + r + ", " + i + ")", x.at(r, i), 1);
            due(call + ": place " + i + " of row " + r, x.asked(), values[i]);
        }
        due(call + ": no place beyond", x.at(r, values.length), RiverBureau.FINDING);
        due(call + ": that is BEYOND", x.finding(), 2);
    }

    static void dueArm(String call, RiverBureau x, int i, int what, int want) {
        due(call + ": arm(" + i + ", " + what + ")", x.arm(i, what), 1);
        due(call + ": arm " + i + " tells " + what, x.asked(), want);
    }

    static void dueFinding(String call, RiverBureau x, int got, int finding) {
        due(call, got, RiverBureau.FINDING);
        due(call + ": finding()", x.finding(), finding);
    }
}
