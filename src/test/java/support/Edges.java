import java.lang.reflect.InvocationTargetException;
import java.lang.reflect.Method;
import java.util.Arrays;
import java.util.Comparator;
import java.util.function.ToLongFunction;

/**
 * What the tests of boundary cases share. Each case is a method of its own, named by the promise's number and what
 * it looks at: p02_row_of_41_ints_is_BAD.
 */
abstract class Edges {
    static final int BAD = -1, FULL = -2, FINDING = -3, STATE = -4, NONE = -9;
    static final int NOTHING = 1, BEYOND = 2, UNLIKE = 3, NOUGHT = 4, SIZE = 5;
    static final int LEAST = Integer.MIN_VALUE, MOST = Integer.MAX_VALUE;
    /** What asked() tells in a busy() object. */
    static final int TOLD = 77;

    /** Runs every case of a class; each promise from the first to the last must have one. */
    static void runCases(Class<?> of, int firstPromise, int lastPromise) throws ReflectiveOperationException {
        Method[] methods = of.getDeclaredMethods();
        Arrays.sort(methods, Comparator.comparing(Method::getName));
        int[] casesOf = new int[44];
        for (Method m : methods) {
            if (m.getName().matches("p\\d\\d_.*")) {
                casesOf[Integer.parseInt(m.getName().substring(1, 3))]++;
                runCase(m);
            }
        }
        Due.enterCase("");
        for (int p = firstPromise; p <= lastPromise; p++) {
            Due.due("promise " + p + " has cases", casesOf[p] > 0 ? 1 : 0, 1);
        }
        Due.end();
    }

    private static void runCase(Method m) throws ReflectiveOperationException {
        Due.enterCase(m.getName());
        int checkedAhead = Due.checkedSoFar();
        m.setAccessible(true);
        try {
            m.invoke(null);
        } catch (InvocationTargetException e) {
            e.getCause().printStackTrace(System.out);
            Due.due("it throws " + e.getCause(), 1, 0);
        }
        Due.due("it looks at answers", Due.checkedSoFar() > checkedAhead ? 1 : 0, 1);
    }

    /** An object in which much is there, so that a refused call has much to leave as it was. */
    static RiverBureau busy() {
        RiverBureau x = Due.deltaOf("r4 a3410 t2321 s4210 b5610 m1110 w10 w21");
        Due.fill(x, 0, 5, -6, 7);
        x.row(1, 0);
        x.row(2, 40);
        x.text(1, 0);
        x.text(2, 60);
        x.keep(1);
        x.season();
        x.stamp(0);
        x.keep(2);
        x.odds(1);
        x.mean(1);
        x.lay(2, 39, TOLD);
        x.at(2, 39);
        return x;
    }

    /** All that is told of an object: the digest, what was told last, findings. */
    private static long[] allToldOf(RiverBureau x) {
        return new long[] {
            x.digest(), x.asked(), x.upper(), x.lower(), x.finding(),
            x.findings(1), x.findings(2), x.findings(3), x.findings(4), x.findings(5)};
    }

    /** The call answers the code, and leaves all as it was, findings too. */
    static void dueRefused(String call, RiverBureau x, int code, ToLongFunction<RiverBureau> doing) {
        long[] ahead = allToldOf(x);
        Due.due(call, doing.applyAsLong(x), code);
        Due.due(call + " leaves all as it was", Arrays.equals(ahead, allToldOf(x)) ? 1 : 0, 1);
    }

    static void dueRefused(String call, int code, ToLongFunction<RiverBureau> doing) {
        dueRefused(call, busy(), code, doing);
    }

    /** The call answers FINDING, and changes nothing but finding() and that one of findings(). */
    static void dueFound(String call, RiverBureau x, int finding, ToLongFunction<RiverBureau> doing) {
        long[] due = allToldOf(x);
        due[4] = finding;
        due[4 + finding]++;
        Due.due(call, doing.applyAsLong(x), FINDING);
        Due.due(call + " changes that finding alone", Arrays.equals(due, allToldOf(x)) ? 1 : 0, 1);
    }

    static void dueFound(String call, int finding, ToLongFunction<RiverBureau> doing) {
        dueFound(call, busy(), finding, doing);
    }

    /** A call that is not refused, but changes nothing that is told, aside from what asked() tells. */
    static void dueAside(String call, RiverBureau x, int want, ToLongFunction<RiverBureau> doing) {
        long[] ahead = allToldOf(x);
        Due.due(call, doing.applyAsLong(x), want);
        long[] behind = allToldOf(x);
        behind[1] = ahead[1];
        Due.due(call + " leaves all as it was", Arrays.equals(ahead, behind) ? 1 : 0, 1);
    }

    static void dueAsked(String call, RiverBureau x, int got, int want, int asked) {
        Due.due(call, got, want);
        Due.due(call + ": asked()", x.asked(), asked);
    }

    static void passSeasons(RiverBureau x, int many) {
        for (int k = 0; k < many; k++) {
            Due.due("season " + k + " goes by", x.season() >= 0 ? 1 : 0, 1);
        }
    }

    static void dueOpen(String when, RiverBureau x, int arms) {
        x.now();
        Due.due(when + ": open arms", x.asked(), arms);
    }
}
