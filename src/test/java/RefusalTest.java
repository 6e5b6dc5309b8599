import java.lang.reflect.InvocationTargetException;
import java.lang.reflect.Method;
import java.lang.reflect.Modifier;
import java.util.Arrays;
import java.util.Comparator;
import java.util.Random;

/** Runs of any calls with any arguments: none throws, and a refused one changes only its count. */
final class RefusalTest {
    private static final Due due = new Due("RefusalTest");
    private static final int[] ODD = {Integer.MIN_VALUE, Integer.MAX_VALUE, -2, -1, 36, 37, 40, 41,
        160, 161, 1 << 16, -(1 << 20)};

    public static void main(String[] args) throws Exception {
        Method[] face = Arrays.stream(TaxOnLooks.class.getDeclaredMethods())
                .filter(m -> Modifier.isPublic(m.getModifiers()))
                .sorted(Comparator.comparing(Method::getName)).toArray(Method[]::new);
        for (int seed = 0; seed < 150; seed++) {
            run(face, new Random(seed));
        }
        due.end();
    }

    private static void run(Method[] face, Random chance) throws IllegalAccessException {
        TaxOnLooks x = new TaxOnLooks();
        for (int i = 0; i < 512; i++) {
            if (chance.nextInt(40) == 0) {
                Due.write(x, chance.nextInt(8), "person 4 1 9 1 9 " + chance.nextInt(36) + ";mite 3");
            }
            Method m = face[chance.nextInt(face.length)];
            Object[] values = new Object[m.getParameterCount()];
            for (int p = 0; p < values.length; p++) {
                Class<?> type = m.getParameterTypes()[p];
                values[p] = type == boolean.class ? (Object) chance.nextBoolean()
                        : type == long.class ? (Object) chance.nextLong() : (Object) number(chance);
            }
            long[] before = told(x);
            long answer;
            try {
                answer = ((Number) m.invoke(x, values)).longValue();
            } catch (InvocationTargetException e) {
                due.is(m.getName() + Arrays.toString(values) + " threw " + e.getCause(), 1, 0);
                return;
            }
            compare(m.getName() + Arrays.toString(values), answer, before, told(x));
        }
    }

    private static int number(Random chance) {
        int kind = chance.nextInt(12);
        return kind == 0 ? ODD[chance.nextInt(ODD.length)] : chance.nextInt(kind < 7 ? 4 : kind < 10 ? 9 : 40);
    }

    private static void compare(String call, long answer, long[] before, long[] after) {
        int refused = -1;
        for (int i = 0; i < 7; i++) {
            if (after[i] != before[i]) {
                due.is(call + " counts once", refused < 0 ? after[i] - before[i] : 99, 1);
                refused = i;
            }
        }
        if (refused < 0) {
            return;
        }
        boolean lowered = call.startsWith("walk") || call.startsWith("sacks") || call.startsWith("judge");
        due.is(call + " answers what is counted", answer, -(refused + 1) - (lowered ? 10 : 0));
        for (int i = 7; i < before.length; i++) {
            due.is(call + " changes nothing, " + i, after[i], before[i]);
        }
    }

    /** The refusals' counts, then all else that can be asked without a refusal. */
    private static long[] told(TaxOnLooks x) {
        long[] all = new long[7 + 11 + 8 * 162 + 36 * 3 + 7 * 8 + 20];
        int n = 0;
        for (int what = 11; what <= 17; what++) {
            all[n++] = x.status(what);
        }
        for (int what = 0; what <= 10; what++) {
            all[n++] = x.status(what);
        }
        for (int s = 0; s < 8; s++) {
            all[n++] = x.holds(s);
            for (int i = 0; i <= 160; i++) {
                all[n++] = x.element(s, i);
            }
        }
        for (int square = 0; square < 36; square++) {
            for (int what = 0; what < 3; what++) {
                all[n++] = x.squareOf(square, what);
            }
        }
        for (int i = 0; i < x.status(0); i++) {
            for (int what = 0; what < 8; what++) {
                all[n++] = x.personOf(i, what);
            }
        }
        for (int i = 0; i < 20; i++) {
            all[all.length - 20 + i] = x.trace(i);
        }
        return all;
    }
}
