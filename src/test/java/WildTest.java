import java.lang.reflect.InvocationTargetException;
import java.lang.reflect.Method;
import java.lang.reflect.Modifier;
import java.util.Arrays;
import java.util.Comparator;
import java.util.List;
import java.util.Random;

/**
 * Any call with any arguments, long past the 512th: what it throws, it throws by a throw statement of the class
 * itself, and its head names it. The machine's own exceptions are subclasses, or come out of the library.
 */
public final class WildTest {
    private static final Check check = new Check();
    private static final int RUNS = 200, CALLS = 4000;
    private static final int[] INTS = {
        Integer.MIN_VALUE, Integer.MIN_VALUE + 1, -1001, -17, -2, -1, 15, 16, 17, 150, 151, 1000, Integer.MAX_VALUE};
    private static final long[] LONGS = {
        Long.MIN_VALUE, Long.MIN_VALUE + 1, -(1L << 32), -1001, -1000, -1, 1000, 1001, 1L << 31, 1L << 32, Long.MAX_VALUE};

    private WildTest() {
    }

    public static void main(String[] args) throws Exception {
        List<Method> methods = Arrays.stream(KeyStates.class.getDeclaredMethods())
            .filter(m -> Modifier.isPublic(m.getModifiers()))
            .sorted(Comparator.comparing(Method::getName)).toList();
        for (int seed = 0; seed < RUNS; seed++) {
            Random random = new Random(seed);
            KeyStates x = new KeyStates();
            for (int n = 0; n < CALLS; n++) {
                call(x, methods.get(random.nextInt(methods.size())), random, "run " + seed + ", call " + n + ", ");
            }
        }
        check.end();
    }

    private static void call(KeyStates x, Method m, Random random, String when) throws Exception {
        Object[] arguments = new Object[m.getParameterCount()];
        for (int p = 0; p < arguments.length; p++) {
            arguments[p] = m.getParameterTypes()[p] == int.class ? (Object) anInt(random) : (Object) aLong(random);
        }
        try {
            m.invoke(x, arguments);
            check.yes(when, true);
        } catch (InvocationTargetException e) {
            Throwable thrown = e.getCause();
            StackTraceElement[] trace = thrown.getStackTrace();
            boolean own = trace.length == 0 || trace[0].getClassName().startsWith("KeyStates");
            boolean named = Arrays.asList(m.getExceptionTypes()).contains(thrown.getClass());
            check.judge(when + m.getName() + Arrays.toString(arguments), own && named ? "" : thrown.toString(), "");
        }
    }

    /** Mostly small, or few calls would find a state. */
    private static int anInt(Random random) {
        int way = random.nextInt(20);
        return way == 0 ? random.nextInt() : way <= 2 ? INTS[random.nextInt(INTS.length)] : random.nextInt(8);
    }

    private static long aLong(Random random) {
        int way = random.nextInt(10);
        return way == 0 ? random.nextLong() : way <= 3 ? LONGS[random.nextInt(LONGS.length)] : random.nextInt(40);
    }
}
