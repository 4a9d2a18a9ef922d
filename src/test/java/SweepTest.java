import java.util.Random;

/**
 * Answers that are sought cleverly in the class, against a search of all there is: every set of waits of five arms,
 * every small row of debts, and plans of three seasons in many deltas of five arms. No object has over 512 calls.
 */
public final class SweepTest {
    private static final int ARMS = 5, WAITS = 20, GRAPHS_AN_OBJECT = 16, DELTAS = 700;

    public static void main(String[] args) {
        waits();
        debts();
        Random random = new Random(2026);
        for (int k = 0; k < DELTAS; k++) {
            plans(random);
        }
        Due.end();
    }

    // ---- promises 32, 33: each of the 2^20 sets of waits; wait e is the e-th smallest code

    private static int codeOf(int e) {
        int i = e / 4;
        int j = e % 4;
        return 8 * i + (j < i ? j : j + 1);
    }

    private static int stalledBy(int graph) {
        int[] reach = new int[ARMS];
        for (int round = 0; round < ARMS; round++) {
            for (int e = 0; e < WAITS; e++) {
                if ((graph >> e & 1) != 0) {
                    int from = codeOf(e) / 8;
                    int to = codeOf(e) % 8;
                    reach[from] |= 1 << to | reach[to];
                }
            }
        }
        int stalled = 0;
        for (int i = 0; i < ARMS; i++) {
            stalled |= reach[i] & 1 << i;
        }
        return stalled;
    }

    /** Of two sets of as many waits, the one with the smallest code that is not in both is the first row. */
    private static boolean isBefore(int one, int other) {
        int many = Integer.bitCount(one) - Integer.bitCount(other);
        int apart = one ^ other;
        return many < 0 || many == 0 && (one & Integer.lowestOneBit(apart)) != 0;
    }

    private static void waits() {
        int[] stalled = new int[1 << WAITS];
        int[] loosened = new int[1 << WAITS];
        for (int graph = 0; graph < 1 << WAITS; graph++) {
            stalled[graph] = stalledBy(graph);
            int best = stalled[graph] == 0 ? 0 : -1;
            for (int e = 0; e < WAITS && stalled[graph] != 0; e++) {
                int bit = 1 << e;
                if ((graph & bit) != 0 && isBefore(loosened[graph ^ bit] | bit, best)) {
                    best = loosened[graph ^ bit] | bit;
                }
            }
            loosened[graph] = best;
        }
        for (int from = 0; from < 1 << WAITS; from += GRAPHS_AN_OBJECT) {
            someGraphs(from, stalled, loosened);
        }
    }

    private static void someGraphs(int from, int[] stalled, int[] loosened) {
        RiverBureau x = Due.deltaOf("r1a1110a1110a1110a1110a1110");
        int laid = 0;
        for (int graph = from; graph < from + GRAPHS_AN_OBJECT; graph++) {
            for (int e = 0; e < WAITS; e++) {
                if (((graph ^ laid) >> e & 1) != 0) {
                    x.awaits(codeOf(e) / 8, codeOf(e) % 8, graph >> e & 1);
                }
            }
            laid = graph;
            boolean alike = x.stalled() == stalled[graph] && x.asked() == Integer.bitCount(graph);
            alike &= x.loosen(0) == Integer.bitCount(loosened[graph]);
            int place = 0;
            for (int e = 0; e < WAITS; e++) {
                if ((loosened[graph] >> e & 1) != 0) {
                    alike &= x.at(0, place) == 1 && x.asked() == codeOf(e);
                    place++;
                }
            }
            Due.due("stalled, loosen of waits " + graph, alike ? 1 : 0, 1);
        }
    }

    // ---- promise 31: every row of five debts of 3 at most

    private static void debts() {
        RiverBureau x = new RiverBureau();
        for (int number = 0; number < 7 * 7 * 7 * 7; number++) {
            if (number % 64 == 0) {
                x = Due.deltaOf("r1a1110a1110a1110a1110a1110");
                x.row(0, ARMS);
            }
            int[] debts = new int[ARMS];
            int rest = number;
            for (int i = 0; i < ARMS - 1; i++) {
                debts[i] = rest % 7 - 3;
                debts[ARMS - 1] -= debts[i];
                rest /= 7;
            }
            for (int i = 0; i < ARMS; i++) {
                x.lay(0, i, debts[i]);
            }
            Due.due("settle of row " + number, x.settle(0), fewestPayments(debts));
        }
    }

    /** Payments by fours or fewer always do; any amount up to the greatest sum is tried in each. */
    private static int fewestPayments(int[] debts) {
        for (int many = 0; many < ARMS; many++) {
            if (settles(debts, many)) {
                return many;
            }
        }
        return ARMS;
    }

    private static boolean settles(int[] debts, int many) {
        int uneven = 0;
        for (int d : debts) {
            uneven += d != 0 ? 1 : 0;
        }
        if (uneven == 0 || many * 2 < uneven) {
            return uneven == 0;
        }
        for (int i = 0; i < ARMS; i++) {
            for (int j = 0; j < ARMS; j++) {
                for (int sum = 1; i != j && debts[i] < 0 && sum <= -debts[i]; sum++) {
                    int[] then = debts.clone();
                    then[i] += sum;
                    then[j] -= sum;
                    if (settles(then, many - 1)) {
                        return true;
                    }
                }
            }
        }
        return false;
    }

    // ---- promises 25, 26: all 32768 plans, in deltas that have gone on for a while

    private static void plans(Random random) {
        Sky sky = new Sky(random);
        RiverBureau x = Due.deltaOf(sky.text);
        x.lots(1 + random.nextInt(8), 1 + random.nextInt(1000000));
        for (int i = 0; i < ARMS; i++) {
            if (random.nextInt(3) == 0) {
                x.leave(i);
            }
            if (random.nextInt(3) == 0) {
                x.need(i, random.nextInt(10));
            }
        }
        sky.look(x);
        sky.goOn(new int[3], 0, 0, 0, 0);
        Due.due("best(3, 0) of " + sky.text, x.best(3, 0), sky.mostHarvests);
        Due.due("its stamps of " + sky.text, x.asked(), sky.stampsOfMost);
        Due.dueRow("best(3, 0) of " + sky.text, x, 0, planOf(sky.planOfMost));
        for (int i = 0; i < ARMS; i++) {
            String call = "fewest(" + i + ", 3, 1) of " + sky.text;
            boolean any = sky.planOfFewest[i] >= 0;
            Due.due(call, x.fewest(i, 3, 1), any ? sky.fewest[i] : RiverBureau.NONE);
            if (any) {
                Due.dueRow(call, x, 1, planOf(sky.planOfFewest[i]));
            }
        }
    }

    private static int[] planOf(int number) {
        return new int[] {number >> 10, number >> 5 & 31, number & 31};
    }

    /** A delta's arms as the document tells them, each number in a row of its own; row k is how all are in season k. */
    private static final class Sky {
        final String text;
        final char[] kind = new char[ARMS];
        final int[] width = new int[ARMS], need = new int[ARMS], year = new int[ARMS], day = new int[ARMS];
        final boolean[][] waits = new boolean[ARMS][ARMS];
        final int[][] open = new int[4][ARMS], barge = new int[4][ARMS], dead = new int[4][ARMS];
        final int[][] salt = new int[4][ARMS], silt = new int[4][ARMS];
        int river, season;
        int mostHarvests = -1, stampsOfMost, planOfMost;
        final int[] fewest = new int[ARMS], planOfFewest = {-1, -1, -1, -1, -1};

        Sky(Random random) {
            StringBuilder s = new StringBuilder("r");
            river = 3 * add(s, 1, 9, random);
            for (int i = 0; i < ARMS; i++) {
                kind[i] = "atsblm".charAt(random.nextInt(6));
                s.append(kind[i]);
                width[i] = add(s, 1, 9, random);
                need[i] = add(s, 0, 9, random);
                year[i] = add(s, 1, random.nextInt(3) == 0 ? 3 : 1, random);
                day[i] = add(s, 0, year[i] - 1, random);
            }
            for (int w = random.nextInt(4); w > 0; w--) {
                int i = random.nextInt(ARMS);
                int j = random.nextInt(ARMS);
                if (i != j && !waits[i][j]) {
                    waits[i][j] = true;
                    s.append('w').append(i).append(j);
                }
            }
            text = s.toString();
        }

        private static int add(StringBuilder s, int low, int high, Random random) {
            int figure = low + random.nextInt(high - low + 1);
            s.append(figure);
            return figure;
        }

        /** How all are now, by what the object itself tells of each arm. */
        void look(RiverBureau x) {
            season = x.now();
            for (int i = 0; i < ARMS; i++) {
                need[i] = tells(x, i, 2);
                open[0][i] = tells(x, i, 3);
                salt[0][i] = tells(x, i, 4);
                silt[0][i] = tells(x, i, 5);
                dead[0][i] = silt[0][i] == 9 ? 1 : 0;
                barge[0][i] = kind[i] == 'b' || kind[i] == 'm' ? x.mark(i, 3) : 0;
            }
        }

        private static int tells(RiverBureau x, int i, int what) {
            x.arm(i, what);
            return x.asked();
        }

        void goOn(int[] plan, int k, int harvests, int stamps, int last) {
            if (k == 3) {
                judge(plan[0] << 10 | plan[1] << 5 | plan[2], harvests, stamps, last);
                return;
            }
            for (int set = 0; set < 1 << ARMS; set++) {
                for (int[][] rows : new int[][][] {open, barge, dead, salt, silt}) {
                    System.arraycopy(rows[k], 0, rows[k + 1], 0, ARMS);
                }
                plan[k] = set;
                int done = 0;
                for (int i = 0; i < ARMS; i++) {
                    if ((set >> i & 1) != 0 && mayBe(i, k)) {
                        stamp(i, k + 1);
                        done++;
                    }
                }
                int now = goBy(k + 1);
                goOn(plan, k + 1, harvests + Integer.bitCount(now), stamps + done, now);
            }
        }

        private void judge(int number, int harvests, int stamps, int last) {
            if (harvests > mostHarvests || harvests == mostHarvests && stamps < stampsOfMost) {
                mostHarvests = harvests;
                stampsOfMost = stamps;
                planOfMost = number;
            }
            for (int i = 0; i < ARMS; i++) {
                if ((last >> i & 1) != 0 && (planOfFewest[i] < 0 || stamps < fewest[i])) {
                    fewest[i] = stamps;
                    planOfFewest[i] = number;
                }
            }
        }

        private boolean mayBe(int i, int k) {
            int[] is = open[k + 1];
            boolean may = (season + k) % year[i] == day[i] && dead[k + 1][i] == 0;
            may &= is[i] == 0 || barge[k + 1][i] == 0;
            for (int j = 0; j < ARMS; j++) {
                may &= !waits[i][j] || is[j] == 1;
            }
            return may;
        }

        private void stamp(int i, int at) {
            open[at][i] = 1 - open[at][i];
            if (kind[i] == 'm' && i + 1 < ARMS && dead[at][i + 1] == 0 && barge[at][i + 1] == 0) {
                open[at][i + 1] = open[at][i];
            }
        }

        private int goBy(int at) {
            int widths = 0;
            for (int i = 0; i < ARMS; i++) {
                widths += open[at][i] * width[i];
            }
            int[] water = new int[ARMS];
            int left = widths == 0 ? 0 : river;
            for (int i = 0; i < ARMS; i++) {
                water[i] = open[at][i] == 1 ? river * width[i] / widths : 0;
                left -= water[i];
            }
            int harvests = 0;
            for (int i = 0; i < ARMS; i++) {
                if (open[at][i] == 1 && left > 0) {
                    water[i]++;
                    left--;
                }
                water[i] += kind[i] == 'l' && open[at][i] == 0 ? 1 : 0;
                boolean enough = water[i] >= need[i];
                harvests |= enough && dead[at][i] == 0 && salt[at][i] <= 4 ? 1 << i : 0;
                int more = enough ? -1 : kind[i] == 't' ? 2 : 1;
                salt[at][i] = Math.max(0, Math.min(9, salt[at][i] + more));
                int silts = open[at][i] == 1 ? -1 : kind[i] == 's' || kind[i] == 'l' ? 2 : 1;
                silt[at][i] = Math.max(0, Math.min(9, silt[at][i] + silts));
            }
            for (int i = 0; i < ARMS; i++) {
                if (silt[at][i] == 9) {
                    dead[at][i] = 1;
                    open[at][i] = 0;
                    barge[at][i] = 0;
                }
            }
            return harvests;
        }
    }
}
