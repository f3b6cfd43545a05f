import java.lang.reflect.InvocationTargetException;
import java.lang.reflect.Method;
import java.util.Arrays;
import java.util.Comparator;
import java.util.Random;

/**
 * Calls with any numbers at all: none throws, two objects answer the same calls alike, and a refused call
 * changes nothing that can be told.
 */
public final class WildTest {
    private static final int RUNS = 600;
    private static final int CALLS = 512;
    private static final int[] EDGES = {Integer.MIN_VALUE, Integer.MAX_VALUE, Integer.MIN_VALUE + 1, -1, 0, 1, 2, 3, 5, 7,
        9, 10, 12, 16, 20, 24, 25, 40, 60, 96, 99, 127, 142, 399, 400, 401, 999, 1000, 2000, 5999, 999999,
        Due.NONE, Due.BAD, 0x63616d70, 0x20312020, 0x28212820};

    public static void main(String[] args) throws IllegalAccessException {
        Method[] calls = LongTrail.class.getDeclaredMethods();
        calls = Arrays.stream(calls).filter(m -> java.lang.reflect.Modifier.isPublic(m.getModifiers()))
                .sorted(Comparator.comparing(Method::getName)).toArray(Method[]::new);
        Due.is("calls", calls.length, 45);
        for (int run = 0; run < RUNS; run++) {
            oneRun(calls, run);
        }
        Due.end("WildTest");
    }

    private static void oneRun(Method[] calls, int seed) throws IllegalAccessException {
        Random r = new Random(seed);
        LongTrail x = new LongTrail();
        LongTrail twin = new LongTrail();
        for (int i = 0; i < CALLS; i++) {
            Method call = calls[r.nextInt(calls.length)];
            Object[] numbers = new Object[call.getParameterCount()];
            for (int k = 0; k < numbers.length; k++) {
                numbers[k] = number(r, seed);
            }
            String name = "run " + seed + ": " + call.getName() + Arrays.toString(numbers);
            long[] before = seed % 5 == 0 ? told(x) : null;
            int got = answer(name, call, x, numbers);
            if (before != null && refused(call.getName(), got)) {
                Due.is(name + " was refused and changed something", Arrays.equals(before, told(x)) ? 1 : 0, 1);
            }
            Due.is(name + " of a twin", answer(name, call, twin, numbers), got);
        }
    }

    private static int number(Random r, int seed) {
        int kind = r.nextInt(10);
        if (kind == 0) {
            return r.nextInt();
        }
        return kind < 3 ? EDGES[r.nextInt(EDGES.length)] : r.nextInt(seed % 2 == 0 ? 12 : 4);
    }

    /** Refused, by a call that leaves all as it was then: text uses up the tape, check what waits. */
    private static boolean refused(String name, int got) {
        return got <= Due.BAD && got >= Due.SIZE && got != Due.NONE && !name.equals("text") && !name.equals("check");
    }

    private static int answer(String name, Method call, LongTrail x, Object[] numbers) throws IllegalAccessException {
        try {
            return (int) call.invoke(x, numbers);
        } catch (InvocationTargetException e) {
            System.out.println(name + " threw " + e.getCause());
            Due.is(name + " threw", 1, 0);
            return 0;
        }
    }

    /** What can be told of an object without a change. */
    private static long[] told(LongTrail x) {
        long[] all = new long[600];
        int n = 0;
        for (int what = 0; what <= 17; what++) {
            all[n++] = x.count(what);
        }
        for (int i = 0; i < 16; i++) {
            for (int what = 0; what <= 5; what++) {
                all[n++] = x.told(i, what);
            }
            all[n++] = x.granted(i);
            all[n++] = x.boxTold(i, 1) + 10000L * x.boxTold(i, 3) + 1000000L * x.boxTold(i, 4);
            all[n++] = x.why(i / 4, i % 4);
        }
        for (int i = 0; i < 10; i++) {
            for (int what = 0; what <= 14; what++) {
                all[n++] = x.is(i, what);
            }
            all[n++] = x.would(i);
        }
        for (int i = 0; i < 4; i++) {
            all[n++] = x.sum(i, 1);
            all[n++] = x.landAt(100 * i);
            all[n++] = x.round(i);
            all[n++] = x.proved(3, i);
        }
        return all;
    }
}
