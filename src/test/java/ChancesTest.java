/** Promises 35, 36, 38, 39: chances and lots. */
public final class ChancesTest {
    public static void main(String[] args) {
        chances();
        chancesByWaits();
        lots();
        lotsRefused();
        lotsWithoutRoom();
        Due.end();
    }

    private static void dueOdds(String when, RiverBureau x, int i, int upper, int lower) {
        Due.due(when + ": odds(" + i + ")", x.odds(i), 1);
        Due.due(when + ": upper()", x.upper(), upper);
        Due.due(when + ": lower()", x.lower(), lower);
    }

    private static void chances() {
        RiverBureau x = new RiverBureau();
        Due.due("before: upper()", x.upper(), 0);
        Due.due("before: lower()", x.lower(), 1);
        Due.due("no arms", x.odds(0), RiverBureau.BAD);
        x = Due.deltaOf("r1 a1310 a1110 a1121 a1010");
        dueOdds("it alone of three", x, 0, 1, 8);
        dueOdds("it, whoever else is open", x, 1, 1, 2);
        dueOdds("not its day", x, 2, 0, 1);
        dueOdds("it needs none", x, 3, 1, 1);
        x.need(0, 2);
        dueOdds("it alone, or 2 of 3 by two", x, 0, 3, 8);
        Due.due("odds(4)", x.odds(4), RiverBureau.BAD);
        Due.due("odds(-1)", x.odds(-1), RiverBureau.BAD);
        Due.due("upper() stays", x.upper(), 3);
        Due.due("lower() stays", x.lower(), 8);
    }

    private static void chancesByWaits() {
        RiverBureau x = Due.deltaOf("r3 a1110 a1110 a1110 w10");
        dueOdds("1 may not be as all are now, so it is not", x, 1, 0, 1);
        x.stamp(0);
        dueOdds("1 may be, if 0 is not shut ahead of it", x, 1, 1, 4);
        dueOdds("32 by 32", Due.deltaOf("r3 a1010 a1010 a1010 a1010 a1010"), 4, 1, 1);
        RiverBureau y = Due.deltaOf("r3 m1110 a1110");
        y.leave(0);
        dueOdds("taken along, then shut by its own; or its own alone", y, 1, 1, 2);
    }

    private static void lots() {
        RiverBureau x = Due.deltaOf("r3 a1110 a1110 a1110");
        int[] sets = {48271 / 32 % 8, (int) (48271L * 48271L % 2147483647L / 32 % 8)};
        Due.fill(x, 0, sets);
        int harvests = x.run(0);
        int stamps = x.asked();
        Due.due("lots as a plan", x.lots(2, 1), harvests);
        Due.due("deeds", x.count(2), stamps + 2);
        Due.due("truly", x.now(), 2);
        Due.due("seasons and stamps can be undone", x.undo(0), stamps + 2);
        Due.due("the greatest seed", x.lots(1, 2147483646) >= 0 ? 1 : 0, 1);
        Due.due("its set", x.now(), 1);
        Due.due("open by it", x.asked(), (int) ((2147483647L - 48271L) / 32 % 8));
    }

    private static void lotsRefused() {
        RiverBureau x = new RiverBureau();
        Due.due("lots(0, 1)", x.lots(0, 1), RiverBureau.BAD);
        Due.due("lots(21, 1)", x.lots(21, 1), RiverBureau.BAD);
        Due.due("lots(1, 0)", x.lots(1, 0), RiverBureau.BAD);
        Due.due("lots(1, -1)", x.lots(1, -1), RiverBureau.BAD);
        Due.due("lots(1, 2147483647)", x.lots(1, 2147483647), RiverBureau.BAD);
        Due.due("lots(1, 1)", x.lots(1, 1), RiverBureau.STATE);
    }

    private static void lotsWithoutRoom() {
        RiverBureau x = Due.deltaOf("r3 b1110");
        for (int d = 0; d < 52; d++) {
            x.season();
        }
        Due.due("8 rooms: three seasons", x.lots(20, 5), 3);
        Due.due("deeds", x.count(2), 55);
        Due.due("5 rooms", x.lots(1, 5), 0);
        Due.due("deeds stay", x.count(2), 55);
    }
}
