import java.util.Random;

/** Long runs of chosen calls: the class answers as the plain model does, call by call. Seeds are fixed. */
public final class ModelTest {
    private static final int RUNS = 1500, CALLS = 300;
    private final RiverBureau x = new RiverBureau();
    private final Model m = new Model();
    private final Random random;
    private final StringBuilder calls = new StringBuilder();

    private ModelTest(int seed) {
        random = new Random(seed);
    }

    public static void main(String[] args) {
        for (int run = 0; run < RUNS; run++) {
            if (!new ModelTest(run).go()) {
                break;
            }
        }
        Due.end();
    }

    private boolean go() {
        for (int k = 0; k < CALLS; k++) {
            int which = k == 0 ? 1 : random.nextInt(46);
            long[] both = which < 2 ? layDelta() : call(which);
            boolean alike = both[0] == both[1] && x.asked() == m.asked() && x.digest() == m.digest()
                && x.finding() == m.finding() && x.upper() == m.upper() && x.lower() == m.lower();
            Due.due("model", alike ? 1 : 0, 1);
            if (!alike) {
                System.out.println(calls);
                System.out.println(both[0] + " for " + both[1] + ", asked " + x.asked() + " for " + m.asked());
                return false;
            }
        }
        return true;
    }

    private int some(int low, int high) {
        return random.nextInt(40) == 0 ? random.nextInt(12) - 5 : low + random.nextInt(high - low + 1);
    }

    private int someRow() {
        return some(0, 5);
    }

    private int someArm() {
        return some(0, Math.max(0, m.count(0) - 1));
    }

    private String someDelta() {
        StringBuilder s = new StringBuilder("r").append(1 + random.nextInt(9));
        int arms = 1 + random.nextInt(5);
        for (int i = 0; i < arms; i++) {
            int year = random.nextInt(3) == 0 ? 1 + random.nextInt(6) : 1 + random.nextInt(2);
            s.append(random.nextBoolean() ? " " : "").append("atsblm".charAt(random.nextInt(6)));
            s.append(1 + random.nextInt(9)).append(random.nextInt(10)).append(year).append(random.nextInt(year));
        }
        int waits = arms == 1 ? 0 : random.nextInt(5);
        for (int w = 0; w < waits && s.length() < 56; w++) {
            int i = random.nextInt(arms);
            String wait = "w" + i + (i + 1 + random.nextInt(arms - 1)) % arms;
            s.append(s.indexOf(wait) >= 0 ? "" : wait);
        }
        if (random.nextInt(4) == 0) {
            s.setCharAt(random.nextInt(s.length()), " r0159atsblmwx".charAt(random.nextInt(14)));
        }
        if (random.nextInt(12) == 0) {
            s.setLength(random.nextInt(s.length()));
        }
        return s.toString();
    }

    private long[] layDelta() {
        String s = someDelta();
        calls.append("delta of '").append(s).append("'\n");
        int t = random.nextInt(4);
        x.text(t, s.length());
        m.text(t, s.length());
        for (int i = 0; i < s.length(); i++) {
            x.put(t, i, s.charAt(i));
            m.put(t, i, s.charAt(i));
        }
        Due.due("fault of '" + s + "'", x.fault(t), m.fault(t));
        return new long[] {x.delta(t), m.delta(t)};
    }

    /** A row that the calls on rows of arms do not refuse, most times. */
    private void fillForArms(int r, boolean debts) {
        int n = Math.max(1, m.count(0));
        x.row(r, n);
        m.row(r, n);
        int sum = 0;
        for (int i = 0; i < n; i++) {
            int v;
            if (debts) {
                v = i == n - 1 ? -sum : random.nextInt(7) - 3;
                sum += v;
            } else {
                m.arm(i, 4);
                x.arm(i, 4);
                v = Math.max(0, m.asked() + random.nextInt(3) - 1);
            }
            x.lay(r, i, v);
            m.lay(r, i, v);
        }
    }

    private long[] call(int which) {
        int a = 0, b = 0, c = 0;
        switch (which) {
            case 2: a = someRow(); b = some(0, 40); return log("row", a, b, 0, x.row(a, b), m.row(a, b));
            case 3: case 4: {
                a = someRow(); b = some(0, 6); c = random.nextBoolean() ? random.nextInt(32) : random.nextInt();
                return log("lay", a, b, c, x.lay(a, b, c), m.lay(a, b, c));
            }
            case 5: a = someRow(); b = some(0, 6); return log("at", a, b, 0, x.at(a, b), m.at(a, b));
            case 6: a = someRow(); return log("tear", a, 0, 0, x.tear(a), m.tear(a));
            case 7: {
                a = someRow(); b = someRow(); c = some(0, 4);
                int i = some(0, 4), j = some(0, 4);
                return log("copy", a, b, c, x.copy(a, i, b, j, c), m.copy(a, i, b, j, c));
            }
            case 8: a = someRow(); return log("mean", a, 0, 0, x.mean(a), m.mean(a));
            case 9: a = some(0, 3); b = some(0, 60); return log("text", a, b, 0, x.text(a, b), m.text(a, b));
            case 10: {
                a = some(0, 3); b = some(0, 59); c = random.nextInt(400) - 100;
                return log("put", a, b, c, x.put(a, b, c), m.put(a, b, c));
            }
            case 11: a = some(0, 3); return log("fault", a, 0, 0, x.fault(a), m.fault(a));
            case 12: a = someArm(); b = some(0, 7); return log("arm", a, b, 0, x.arm(a, b), m.arm(a, b));
            case 13: a = someArm(); b = some(1, 5); return log("mark", a, b, 0, x.mark(a, b), m.mark(a, b));
            case 14: a = someArm(); b = some(0, 9); return log("need", a, b, 0, x.need(a, b), m.need(a, b));
            case 15: {
                a = someArm(); b = someArm(); c = some(0, 1);
                c = m.stalled() >= 0 && m.asked() >= 9 && x.stalled() >= 0 ? 0 : c;
                x.stalled();
                return log("awaits", a, b, c, x.awaits(a, b, c), m.awaits(a, b, c));
            }
            case 16: case 17: case 18: a = someArm(); return log("stamp", a, 0, 0, x.stamp(a), m.stamp(a));
            case 19: case 20: case 21: return log("season", 0, 0, 0, x.season(), m.season());
            case 22: a = someArm(); return log("leave", a, 0, 0, x.leave(a), m.leave(a));
            case 23: {
                a = some(Math.max(0, m.count(2) - 6), m.count(2));
                return log("undo", a, 0, 0, x.undo(a), m.undo(a));
            }
            case 24: return log("now", 0, 0, 0, x.now(), m.now());
            case 25: a = someArm(); return log("water", a, 0, 0, x.water(a), m.water(a));
            case 26: a = some(0, 2); return log("keep", a, 0, 0, x.keep(a), m.keep(a));
            case 27: a = some(0, 2); return log("on", a, 0, 0, x.on(a), m.on(a));
            default: return callOnDelta(which);
        }
    }

    private long[] callOnDelta(int which) {
        int a = 0, b = 0, c = 0;
        switch (which) {
            case 28: {
                a = random.nextInt(6); b = some(0, 13);
                x.row(a, b);
                m.row(a, b);
                for (int k = 0; k < b; k++) {
                    int set = some(0, Math.max(0, (1 << m.count(0)) - 1));
                    x.lay(a, k, set);
                    m.lay(a, k, set);
                }
                return log("run", a, 0, 0, x.run(a), m.run(a));
            }
            case 29: {
                a = some(0, m.count(0) > 3 ? random.nextInt(200) == 0 ? 3 : 2 : 3); b = someRow();
                a = m.count(0) > 3 && random.nextInt(60) != 0 ? Math.min(a, 1) : a;
                return log("best", a, b, 0, x.best(a, b), m.best(a, b));
            }
            case 30: {
                a = someArm(); b = some(0, 3); c = someRow();
                b = m.count(0) > 3 && random.nextInt(60) != 0 ? Math.min(b, 1) : b;
                return log("fewest", a, b, c, x.fewest(a, b, c), m.fewest(a, b, c));
            }
            case 31: return log("dies", 0, 0, 0, x.dies(), m.dies());
            case 32: a = someArm(); b = some(0, 12); return log("barge", a, b, 0, x.barge(a, b), m.barge(a, b));
            case 33: case 34: {
                a = someRow();
                if (random.nextInt(5) != 0) fillForArms(a = random.nextInt(6), false);
                Due.due("opened", x.opened(a), m.opened(a));
                return log("fits", a, 0, 0, x.fits(a), m.fits(a));
            }
            case 35: a = someRow(); return log("opened", a, 0, 0, x.opened(a), m.opened(a));
            case 36: case 37: {
                a = someRow();
                if (random.nextInt(5) != 0) fillForArms(a = random.nextInt(6), true);
                return log("settle", a, 0, 0, x.settle(a), m.settle(a));
            }
            case 38: return log("stalled", 0, 0, 0, x.stalled(), m.stalled());
            case 39: a = someRow(); return log("loosen", a, 0, 0, x.loosen(a), m.loosen(a));
            case 40: a = someArm(); b = someArm(); return log("eels", a, b, 0, x.eels(a, b), m.eels(a, b));
            case 41: a = someArm(); return log("odds", a, 0, 0, x.odds(a), m.odds(a));
            case 42: {
                a = some(1, random.nextInt(8) == 0 ? 20 : 4);
                b = random.nextInt(20) == 0 ? random.nextInt() : 1 + random.nextInt(2147483646);
                return log("lots", a, b, 0, x.lots(a, b), m.lots(a, b));
            }
            case 43: a = some(0, 9); return log("count", a, 0, 0, x.count(a), m.count(a));
            case 44: a = some(1, 5); return log("findings", a, 0, 0, x.findings(a), m.findings(a));
            default: a = someArm(); return log("water", a, 0, 0, x.water(a), m.water(a));
        }
    }

    private long[] log(String name, int a, int b, int c, long got, long want) {
        calls.append(name).append(' ').append(a).append(' ').append(b).append(' ').append(c);
        calls.append(" -> ").append(got).append('\n');
        return new long[] {got, want};
    }
}
