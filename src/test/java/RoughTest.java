import java.lang.reflect.Method;
import java.util.ArrayList;
import java.util.Arrays;
import java.util.Comparator;
import java.util.List;
import java.util.Random;

/** Any call with any numbers in any state ends and throws nothing; what is refused changes nothing but findings. */
public final class RoughTest {
    private static final int RUNS = 400, CALLS = 512;
    private static final int[] WILD = {
        Integer.MIN_VALUE, Integer.MIN_VALUE + 1, -1000000, -61, -9, -2, -1, 0, 1, 2, 3, 4, 5, 6, 7, 8, 9, 10, 12, 13,
        20, 21, 31, 32, 39, 40, 41, 59, 60, 61, 64, 127, 128, 255, 1 << 20, 1 << 30, Integer.MAX_VALUE - 1,
        Integer.MAX_VALUE};
    private static final String[] DELTAS = {
        "r4 a3410 t2321 s4210 b5610 m1110 w10 w21", "r1a1010", "r9m9910m9910m9910m9910m9910", "r1l1910 s9165 w01 w10",
        "r2a1010a1010a1010a1010a1010", "r3 m1110 a1010 m1110 l1110 t1910 w01w02w03w04w10w12w13w14"};

    public static void main(String[] args) throws ReflectiveOperationException {
        List<Method> methods = new ArrayList<>();
        for (Method m : RiverBureau.class.getDeclaredMethods()) {
            if (java.lang.reflect.Modifier.isPublic(m.getModifiers())) {
                methods.add(m);
            }
        }
        methods.sort(Comparator.comparing(Method::getName));
        Due.due("calls of the face", methods.size(), 42);
        for (int run = 0; run < RUNS; run++) {
            go(methods, new Random(run), run % 7);
        }
        Due.end();
    }

    private static void go(List<Method> methods, Random random, int which) throws ReflectiveOperationException {
        RiverBureau x = which < DELTAS.length ? Due.deltaOf(DELTAS[which]) : new RiverBureau();
        for (int c = 0; c < CALLS; c++) {
            Method m = methods.get(random.nextInt(methods.size()));
            if (m.getName().equals("delta") && random.nextInt(10) != 0) {
                continue;
            }
            Object[] given = new Object[m.getParameterCount()];
            for (int k = 0; k < given.length; k++) {
                given[k] = random.nextInt(3) == 0 ? WILD[random.nextInt(WILD.length)] : random.nextInt(6);
            }
            long[] before = {x.digest(), x.asked(), x.upper(), x.lower()};
            long got = ((Number) m.invoke(x, given)).longValue();
            boolean refused = m.getReturnType() == int.class && got < 0 && got > RiverBureau.NONE
                && !m.getName().equals("asked");
            if (refused) {
                long[] after = {x.digest(), x.asked(), x.upper(), x.lower()};
                String call = m.getName() + Arrays.toString(given) + " refused by " + got;
                Due.due(call + " changes nothing", Arrays.equals(before, after) ? 1 : 0, 1);
            }
        }
    }
}
