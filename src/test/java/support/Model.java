import java.util.ArrayList;
import java.util.Arrays;
import java.util.HashSet;
import java.util.List;
import java.util.Set;

/**
 * The document once more, as slowly and plainly as it can be written: every plan is gone through, every
 * set of waits is tried, every way of paying is tried. The class must answer as this does.
 */
final class Model {
    static final int BAD = -1, FULL = -2, FINDING = -3, STATE = -4, NONE = -9;
    private static final String LETTERS = "atsblm";

    private static final class Arm {
        int kind, width, year, day, salt, silt, harvests;
        boolean open, barge, dead;

        Arm twin() {
            Arm a = new Arm();
            a.kind = kind;
            a.width = width;
            a.year = year;
            a.day = day;
            a.salt = salt;
            a.silt = silt;
            a.harvests = harvests;
            a.open = open;
            a.barge = barge;
            a.dead = dead;
            return a;
        }

        boolean isA(int k) {
            return kind == k || k == 2 && kind == 4 || k == 3 && kind == 5;
        }
    }

    private static final class World {
        final List<Arm> arms = new ArrayList<>();
        int season;

        World twin() {
            World w = new World();
            w.season = season;
            for (Arm a : arms) {
                w.arms.add(a.twin());
            }
            return w;
        }
    }

    private static final class Save {
        World world;
        List<World> past;
        int[] needs;
    }

    private final Integer[][] rows = new Integer[6][];
    private final Byte[][] texts = new Byte[4][];
    private World world = new World();
    private List<World> past = new ArrayList<>();
    private int[] needs = new int[0];
    private boolean[][] waits = new boolean[0][0];
    private int river = 0;
    private final Save[] saves = new Save[3];
    private int asked = 0, finding = 0;
    private long upper = 0, lower = 1;
    private final int[] findings = new int[6];

    private int find(int f) {
        finding = f;
        findings[f]++;
        return FINDING;
    }

    private int arms() {
        return world.arms.size();
    }

    private boolean noArm(int i) {
        return i < 0 || i >= arms();
    }

    int row(int r, int n) {
        if (r < 0 || r > 5 || n > 40) return BAD;
        if (n < 0) return find(5);
        rows[r] = new Integer[n];
        Arrays.fill(rows[r], 0);
        return n;
    }

    int lay(int r, int i, int v) {
        if (r < 0 || r > 5) return BAD;
        if (rows[r] == null) return find(1);
        if (i < 0 || i >= rows[r].length) return find(2);
        asked = rows[r][i];
        rows[r][i] = v;
        return 1;
    }

    int at(int r, int i) {
        if (r < 0 || r > 5) return BAD;
        if (rows[r] == null) return find(1);
        if (i < 0 || i >= rows[r].length) return find(2);
        asked = rows[r][i];
        return 1;
    }

    int tear(int r) {
        if (r < 0 || r > 5) return BAD;
        if (rows[r] == null) return find(1);
        rows[r] = null;
        return 1;
    }

    int copy(int r, int i, int to, int j, int n) {
        if (r < 0 || r > 5 || to < 0 || to > 5) return BAD;
        if (n < 0) return find(5);
        if (rows[r] == null || rows[to] == null) return find(1);
        if (i < 0 || j < 0 || (long) i + n > rows[r].length || (long) j + n > rows[to].length) return find(2);
        Integer[] taken = Arrays.copyOfRange(rows[r], i, i + n);
        for (int k = 0; k < n; k++) rows[to][j + k] = taken[k];
        return 1;
    }

    int mean(int r) {
        if (r < 0 || r > 5) return BAD;
        if (rows[r] == null) return find(1);
        if (rows[r].length == 0) return find(4);
        long sum = 0;
        for (int v : rows[r]) sum += v;
        asked = (int) (sum / rows[r].length);
        return 1;
    }

    int text(int t, int n) {
        if (t < 0 || t > 3 || n > 60) return BAD;
        if (n < 0) return find(5);
        texts[t] = new Byte[n];
        Arrays.fill(texts[t], (byte) 32);
        return n;
    }

    int put(int t, int i, int v) {
        if (t < 0 || t > 3) return BAD;
        if (texts[t] == null) return find(1);
        if (i < 0 || i >= texts[t].length) return find(2);
        int was = texts[t][i] + 1000;
        texts[t][i] = (byte) v;
        return was;
    }

    /** One state after another, sign by sign. */
    private int scan(String s, List<String> items) {
        int i = 0;
        int arms = 0, waits = 0;
        Set<String> told = new HashSet<>();
        boolean river = false;
        while (true) {
            while (i < s.length() && s.charAt(i) == ' ') i++;
            if (i == s.length()) return river && arms > 0 ? NONE : s.length();
            char c = s.charAt(i);
            String[] allowed;
            if (!river) {
                if (c != 'r') return i;
                river = true;
                allowed = new String[] {"123456789"};
            } else if (c == 'w') {
                if (arms == 0 || waits == 8) return i;
                waits++;
                String there = "01234".substring(0, arms);
                allowed = new String[] {there, there};
            } else {
                if (LETTERS.indexOf(c) < 0 || waits > 0 || arms == 5) return i;
                arms++;
                allowed = new String[] {"123456789", "0123456789", "123456", "012345"};
            }
            StringBuilder item = new StringBuilder().append(c);
            for (int k = 0; k < allowed.length; k++) {
                int p = i + 1 + k;
                if (p >= s.length()) return s.length();
                char f = s.charAt(p);
                if (allowed[k].indexOf(f) < 0) return p;
                if (k == 3 && f >= s.charAt(p - 1)) return p;
                if (c == 'w' && k == 1 && (f == s.charAt(p - 1) || !told.add("" + s.charAt(p - 1) + f))) return p;
                item.append(f);
            }
            items.add(item.toString());
            i += item.length();
        }
    }

    private String wordsOf(int t) {
        StringBuilder s = new StringBuilder();
        for (byte b : texts[t]) s.append((char) (b & 255));
        return s.toString();
    }

    int fault(int t) {
        if (t < 0 || t > 3) return BAD;
        if (texts[t] == null) return find(1);
        return scan(wordsOf(t), new ArrayList<>());
    }

    int delta(int t) {
        if (t < 0 || t > 3) return BAD;
        if (texts[t] == null) return find(1);
        List<String> items = new ArrayList<>();
        if (scan(wordsOf(t), items) != NONE) return STATE;
        world = new World();
        past = new ArrayList<>();
        List<Integer> wanted = new ArrayList<>();
        waits = new boolean[5][5];
        Arrays.fill(saves, null);
        for (String item : items) {
            char c = item.charAt(0);
            if (c == 'r') {
                river = 3 * (item.charAt(1) - '0');
            } else if (c == 'w') {
                waits[item.charAt(1) - '0'][item.charAt(2) - '0'] = true;
            } else {
                Arm a = new Arm();
                a.kind = LETTERS.indexOf(c);
                a.width = item.charAt(1) - '0';
                wanted.add(item.charAt(2) - '0');
                a.year = item.charAt(3) - '0';
                a.day = item.charAt(4) - '0';
                a.barge = c == 'b' || c == 'm';
                a.open = a.barge;
                world.arms.add(a);
            }
        }
        needs = new int[wanted.size()];
        for (int i = 0; i < needs.length; i++) needs[i] = wanted.get(i);
        return arms();
    }

    private boolean mayBe(World w, int i) {
        Arm a = w.arms.get(i);
        if (w.season % a.year != a.day || a.dead || a.open && a.barge) return false;
        for (int j = 0; j < w.arms.size(); j++) {
            if (waits[i][j] && !w.arms.get(j).open) return false;
        }
        return true;
    }

    private int takes(World w, int i) {
        if (i + 1 >= w.arms.size()) return NONE;
        Arm next = w.arms.get(i + 1);
        return next.dead || next.barge ? NONE : i + 1;
    }

    private void stampIn(World w, int i) {
        Arm a = w.arms.get(i);
        a.open = !a.open;
        if (a.kind == 5 && takes(w, i) != NONE) w.arms.get(i + 1).open = a.open;
    }

    private int[] shares(World w) {
        int[] got = new int[w.arms.size()];
        int widths = 0;
        for (Arm a : w.arms) widths += a.open ? a.width : 0;
        int left = river;
        for (int i = 0; i < got.length; i++) {
            Arm a = w.arms.get(i);
            if (a.open) got[i] = river * a.width / widths;
            left -= got[i];
        }
        for (int i = 0; i < got.length && left > 0; i++) {
            if (w.arms.get(i).open) {
                got[i]++;
                left--;
            }
        }
        for (int i = 0; i < got.length; i++) {
            if (w.arms.get(i).kind == 4 && !w.arms.get(i).open) got[i] = 1;
        }
        return got;
    }

    private int pass(World w) {
        int[] got = shares(w);
        int bits = 0;
        for (int i = 0; i < got.length; i++) {
            Arm a = w.arms.get(i);
            if (!a.dead && got[i] >= needs[i] && a.salt <= 4) {
                a.harvests++;
                bits += 1 << i;
            }
        }
        for (int i = 0; i < got.length; i++) {
            Arm a = w.arms.get(i);
            a.salt = got[i] < needs[i] ? Math.min(9, a.salt + (a.kind == 1 ? 2 : 1)) : Math.max(0, a.salt - 1);
        }
        for (Arm a : w.arms) {
            a.silt = a.open ? Math.max(0, a.silt - 1) : a.silt + (a.kind == 2 || a.kind == 4 ? 2 : 1);
            if (a.silt >= 9) {
                a.silt = 9;
                a.dead = true;
                a.open = false;
                a.barge = false;
            }
        }
        w.season++;
        return bits;
    }

    private int openBits(World w) {
        int bits = 0;
        for (int i = 0; i < w.arms.size(); i++) bits += w.arms.get(i).open ? 1 << i : 0;
        return bits;
    }

    private int tells(int i, int what) {
        Arm a = world.arms.get(i);
        int[] all = {a.kind, a.width, needs[i], a.open ? 1 : 0, a.salt, a.silt, a.harvests, mayBe(world, i) ? 1 : 0};
        return all[what];
    }

    int arm(int i, int what) {
        if (noArm(i) || what < 0 || what > 7) return BAD;
        asked = tells(i, what);
        return 1;
    }

    int mark(int i, int kind) {
        if (noArm(i) || kind < 1 || kind > 5) return BAD;
        Arm a = world.arms.get(i);
        if (!a.isA(kind)) return find(3);
        int seasons = 0;
        if (kind == 1) {
            for (int s = a.salt; s <= 4; s += 2) seasons++;
            return seasons;
        }
        if (kind == 2) {
            for (int s = a.silt; s < 9; s += 2) seasons++;
            return seasons;
        }
        if (kind == 3) return a.barge ? 1 : 0;
        if (kind == 4) return shares(world)[i];
        return takes(world, i);
    }

    int need(int i, int v) {
        if (noArm(i) || v < 0 || v > 9) return BAD;
        int was = needs[i];
        needs[i] = v;
        return was;
    }

    int awaits(int i, int j, int is) {
        if (noArm(i) || noArm(j) || i == j || is < 0 || is > 1) return BAD;
        int was = waits[i][j] ? 1 : 0;
        waits[i][j] = is == 1;
        return was;
    }

    int stamp(int i) {
        if (noArm(i)) return BAD;
        if (!mayBe(world, i)) return STATE;
        if (past.size() == 60) return FULL;
        past.add(world.twin());
        stampIn(world, i);
        return openBits(world);
    }

    int season() {
        if (arms() == 0) return STATE;
        if (past.size() == 60) return FULL;
        past.add(world.twin());
        asked = pass(world);
        return Integer.bitCount(asked);
    }

    int leave(int i) {
        if (noArm(i)) return BAD;
        if (!world.arms.get(i).barge) return STATE;
        if (past.size() == 60) return FULL;
        past.add(world.twin());
        world.arms.get(i).barge = false;
        world.arms.get(i).open = false;
        return 1;
    }

    int undo(int n) {
        if (n < 0 || n > past.size()) return BAD;
        int undone = 0;
        while (past.size() > n) {
            world = past.remove(past.size() - 1);
            undone++;
        }
        return undone;
    }

    int now() {
        if (arms() == 0) return STATE;
        asked = openBits(world);
        return world.season;
    }

    int water(int i) {
        return noArm(i) ? BAD : shares(world)[i];
    }

    private static List<World> twins(List<World> of) {
        List<World> out = new ArrayList<>();
        for (World w : of) out.add(w.twin());
        return out;
    }

    int keep(int k) {
        if (k < 0 || k > 2) return BAD;
        if (arms() == 0) return STATE;
        saves[k] = new Save();
        saves[k].world = world.twin();
        saves[k].past = twins(past);
        saves[k].needs = needs.clone();
        return past.size();
    }

    int on(int k) {
        if (k < 0 || k > 2) return BAD;
        if (saves[k] == null) return find(1);
        world = saves[k].world.twin();
        past = twins(saves[k].past);
        needs = saves[k].needs.clone();
        return past.size();
    }

    /** Harvests, stamps, and the harvests of the last season (bits). */
    private int[] follow(World from, int... plan) {
        World w = from.twin();
        int harvests = 0, stamps = 0, last = 0;
        for (int set : plan) {
            for (int i = 0; i < w.arms.size(); i++) {
                if ((set >> i) % 2 == 1 && mayBe(w, i)) {
                    stampIn(w, i);
                    stamps++;
                }
            }
            last = pass(w);
            harvests += Integer.bitCount(last);
        }
        return new int[] {harvests, stamps, last};
    }

    int run(int r) {
        if (r < 0 || r > 5) return BAD;
        if (arms() == 0) return STATE;
        if (rows[r] == null) return find(1);
        if (rows[r].length > 12) return find(5);
        int[] plan = new int[rows[r].length];
        for (int k = 0; k < plan.length; k++) {
            plan[k] = rows[r][k];
            if (plan[k] < 0 || plan[k] >= 1 << arms()) return find(3);
        }
        int[] out = follow(world, plan);
        asked = out[1];
        return out[0];
    }

    private int[] planOf(int number, int n) {
        int[] plan = new int[n];
        int sets = 1 << arms();
        for (int k = n - 1; k >= 0; k--) {
            plan[k] = number % sets;
            number /= sets;
        }
        return plan;
    }

    private void toRow(int r, int[] values) {
        rows[r] = new Integer[values.length];
        for (int k = 0; k < values.length; k++) rows[r][k] = values[k];
    }

    int best(int n, int r) {
        if (n < 0 || n > 3 || r < 0 || r > 5) return BAD;
        if (arms() == 0) return STATE;
        int plans = 1 << n * arms();
        int[] best = null, bestOut = null;
        for (int p = 0; p < plans; p++) {
            int[] out = follow(world, planOf(p, n));
            if (best == null || out[0] > bestOut[0] || out[0] == bestOut[0] && out[1] < bestOut[1]) {
                best = planOf(p, n);
                bestOut = out;
            }
        }
        toRow(r, best);
        asked = bestOut[1];
        return bestOut[0];
    }

    int fewest(int i, int n, int r) {
        if (noArm(i) || n < 0 || n > 3 || r < 0 || r > 5) return BAD;
        int fewest = NONE;
        int[] best = null;
        for (int p = 0; p < 1 << n * arms(); p++) {
            int[] out = follow(world, planOf(p, n));
            if ((out[2] >> i) % 2 == 1 && (best == null || out[1] < fewest)) {
                fewest = out[1];
                best = planOf(p, n);
            }
        }
        if (best != null) toRow(r, best);
        return fewest;
    }

    int dies() {
        if (arms() == 0) return STATE;
        World w = world.twin();
        for (int s = 1; s <= 40; s++) {
            World then = w.twin();
            pass(then);
            for (int i = 0; i < arms(); i++) {
                if (then.arms.get(i).dead && !w.arms.get(i).dead) {
                    asked = s;
                    return i;
                }
            }
            w = then;
        }
        return NONE;
    }

    int barge(int i, int n) {
        if (noArm(i) || n < 0 || n > 12) return BAD;
        World without = world.twin();
        if (without.arms.get(i).barge) {
            without.arms.get(i).barge = false;
            without.arms.get(i).open = false;
        }
        return 100 + follow(without, new int[n])[0] - follow(world, new int[n])[0];
    }

    private int saltRefusal(int r) {
        if (r < 0 || r > 5) return BAD;
        if (arms() == 0) return STATE;
        if (rows[r] == null) return find(1);
        if (rows[r].length != arms()) return find(5);
        return 0;
    }

    /** The sets that fit, each with the arms that it stamps. */
    private List<int[]> fitting(int r) {
        List<int[]> out = new ArrayList<>();
        for (int set = 0; set < 1 << arms(); set++) {
            World w = world.twin();
            int stamped = 0;
            for (int i = 0; i < arms(); i++) {
                if ((set >> i) % 2 == 1 && mayBe(w, i)) {
                    stampIn(w, i);
                    stamped |= 1 << i;
                }
            }
            pass(w);
            boolean fits = true;
            for (int i = 0; i < arms(); i++) fits &= w.arms.get(i).salt == rows[r][i];
            if (fits) out.add(new int[] {set, stamped});
        }
        return out;
    }

    int fits(int r) {
        int refusal = saltRefusal(r);
        if (refusal != 0) return refusal;
        List<int[]> sets = fitting(r);
        asked = sets.isEmpty() ? NONE : sets.get(0)[0];
        return sets.size();
    }

    int opened(int r) {
        int refusal = saltRefusal(r);
        if (refusal != 0) return refusal;
        List<int[]> sets = fitting(r);
        int common = sets.isEmpty() ? 0 : 31;
        for (int[] s : sets) common &= s[1];
        return common;
    }

    int settle(int r) {
        int refusal = saltRefusal(r);
        if (refusal != 0) return refusal;
        long[] debts = new long[arms()];
        long sum = 0;
        for (int i = 0; i < debts.length; i++) {
            debts[i] = rows[r][i];
            sum += debts[i];
        }
        return sum != 0 ? find(4) : pay(debts, 0);
    }

    /** The first that is not even pays, or is paid by, each of the others in turn. */
    private static int pay(long[] debts, int from) {
        int first = from;
        while (first < debts.length && debts[first] == 0) first++;
        if (first == debts.length) return 0;
        int fewest = 99;
        for (int j = first + 1; j < debts.length; j++) {
            if (debts[first] > 0 == debts[j] < 0 && debts[j] != 0) {
                long[] then = debts.clone();
                then[j] += then[first];
                then[first] = 0;
                fewest = Math.min(fewest, 1 + pay(then, first + 1));
            }
        }
        return fewest;
    }

    private List<Integer> codes() {
        List<Integer> out = new ArrayList<>();
        for (int i = 0; i < arms(); i++) {
            for (int j = 0; j < arms(); j++) {
                if (waits[i][j]) out.add(8 * i + j);
            }
        }
        return out;
    }

    private int stuck(List<Integer> codes) {
        int bits = 0;
        for (int i = 0; i < arms(); i++) {
            Set<Integer> seen = new HashSet<>();
            List<Integer> open = new ArrayList<>(List.of(i));
            while (!open.isEmpty()) {
                int a = open.remove(0);
                for (int c : codes) {
                    if (c / 8 == a && seen.add(c % 8)) open.add(c % 8);
                }
            }
            if (seen.contains(i)) bits |= 1 << i;
        }
        return bits;
    }

    int stalled() {
        asked = codes().size();
        return stuck(codes());
    }

    int loosen(int r) {
        if (r < 0 || r > 5) return BAD;
        List<Integer> codes = codes();
        for (int many = 0; many <= codes.size(); many++) {
            List<Integer> gone = new ArrayList<>();
            if (choose(codes, 0, many, gone)) {
                int[] values = new int[many];
                for (int k = 0; k < many; k++) values[k] = gone.get(k);
                toRow(r, values);
                return many;
            }
        }
        return BAD;
    }

    private boolean choose(List<Integer> codes, int from, int many, List<Integer> gone) {
        if (many == 0) {
            List<Integer> left = new ArrayList<>(codes);
            left.removeAll(gone);
            return stuck(left) == 0;
        }
        for (int k = from; k < codes.size(); k++) {
            gone.add(codes.get(k));
            if (choose(codes, k + 1, many - 1, gone)) return true;
            gone.remove(gone.size() - 1);
        }
        return false;
    }

    int eels(int i, int j) {
        if (noArm(i) || noArm(j) || i == j) return BAD;
        int between = -1;
        int step = i < j ? 1 : -1;
        for (int k = i; k != j; k += step) {
            if (!world.arms.get(k).open) return NONE;
            between++;
        }
        return world.arms.get(j).open ? between : NONE;
    }

    int odds(int i) {
        if (noArm(i)) return BAD;
        List<Integer> may = new ArrayList<>();
        for (int k = 0; k < arms(); k++) {
            if (mayBe(world, k)) may.add(k);
        }
        long good = 0, all = 1L << may.size();
        for (int chosen = 0; chosen < all; chosen++) {
            int set = 0;
            for (int k = 0; k < may.size(); k++) set |= (chosen >> k & 1) << may.get(k);
            good += follow(world, set)[2] >> i & 1;
        }
        long a = good, b = all;
        while (b != 0) {
            long c = a % b;
            a = b;
            b = c;
        }
        upper = good / a;
        lower = all / a;
        return 1;
    }

    int lots(int n, int seed) {
        if (n < 1 || n > 20 || seed < 1 || seed > 2147483646) return BAD;
        if (arms() == 0) return STATE;
        long lot = seed;
        int harvests = 0;
        for (int k = 0; k < n; k++) {
            if (60 - past.size() < 6) break;
            lot = 48271L * lot % 2147483647L;
            int set = (int) (lot / 32 % (1 << arms()));
            for (int i = 0; i < arms(); i++) {
                if ((set >> i) % 2 == 1 && mayBe(world, i)) {
                    past.add(world.twin());
                    stampIn(world, i);
                }
            }
            past.add(world.twin());
            harvests += Integer.bitCount(pass(world));
        }
        return harvests;
    }

    int asked() {
        return asked;
    }

    long upper() {
        return upper;
    }

    long lower() {
        return lower;
    }

    int count(int what) {
        if (what < 0 || what > 9) return BAD;
        int[] all = new int[10];
        all[0] = arms();
        all[1] = river;
        all[2] = past.size();
        for (Arm a : world.arms) {
            all[3] += a.dead ? 1 : 0;
            all[4] += a.barge ? 1 : 0;
            all[5] += a.isA(2) ? 1 : 0;
            all[9] += a.harvests;
        }
        for (Integer[] r : rows) all[6] += r != null ? 1 : 0;
        for (Byte[] t : texts) all[7] += t != null ? 1 : 0;
        for (Save s : saves) all[8] += s != null ? 1 : 0;
        return all[what];
    }

    int finding() {
        return finding;
    }

    int findings(int f) {
        return f < 1 || f > 5 ? BAD : findings[f];
    }

    long digest() {
        List<Integer> vs = new ArrayList<>();
        for (int w = 0; w < 10; w++) vs.add(count(w));
        vs.add(world.season);
        for (int i = 0; i < arms(); i++) {
            for (int w = 0; w < 8; w++) vs.add(tells(i, w));
            int bits = 0;
            for (int j = 0; j < 5; j++) bits |= waits[i][j] ? 1 << j : 0;
            vs.add(bits);
        }
        for (Save s : saves) vs.add(s == null ? -1 : s.past.size());
        for (Integer[] r : rows) {
            vs.add(r == null ? -1 : r.length);
            if (r != null) vs.addAll(Arrays.asList(r));
        }
        for (Byte[] t : texts) {
            vs.add(t == null ? -1 : t.length);
            if (t != null) {
                for (byte b : t) vs.add((int) b);
            }
        }
        long h = 17;
        for (int v : vs) h = 31 * h + v;
        return h;
    }
}
