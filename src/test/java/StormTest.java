import java.lang.reflect.InvocationTargetException;
import java.lang.reflect.Method;
import java.util.ArrayList;
import java.util.Comparator;
import java.util.List;
import java.util.Random;

/** Every call with every sort of argument, in states of all sorts: nothing is ever thrown, and the same answers come again. */
final class StormTest {
    private static final int[] EDGES = {0, 1, 2, 3, 4, 5, 6, 7, 8, 9, 10, 11, 12, 13, 20, 24, 25, 40, 60, 99, 100, 127, 239,
        240, 255, 511, 4095, 4096, 65535, -1, -2, -20, -128, Integer.MAX_VALUE, Integer.MAX_VALUE - 3, Integer.MIN_VALUE};

    /** More than an object is used for: nothing may be thrown then, either. */
    private static final int CALLS = 600;

    public static void main(String[] args) throws ReflectiveOperationException {
        Due due = new Due();
        List<Method> calls = new ArrayList<>(List.of(NodBench.class.getDeclaredMethods()));
        calls.removeIf(m -> !java.lang.reflect.Modifier.isPublic(m.getModifiers()));
        calls.sort(Comparator.comparing(Method::getName));
        due.is("calls", calls.size(), 35);
        for (int run = 0; run < 300; run++) {
            due.is("run " + run + " again", storm(calls, run), storm(calls, run));
        }
        due.close("StormTest");
    }

    private static long storm(List<Method> calls, int run) throws ReflectiveOperationException {
        Random dice = new Random(run);
        NodBench x = new NodBench();
        long sum = 0;
        for (int i = 0; i < CALLS; i++) {
            boolean isPerson = dice.nextInt(12) == 0;
            Method call = calls.get(dice.nextInt(calls.size()));
            int answer;
            if (isPerson) {
                answer = x.person(dice.nextInt(240), dice.nextInt(6), dice.nextInt(4), dice.nextInt(5));
            } else {
                answer = answer(x, call, dice);
            }
            sum = sum * 31 + answer;
        }
        return sum;
    }

    private static int answer(NodBench x, Method call, Random dice) throws ReflectiveOperationException {
        Class<?>[] types = call.getParameterTypes();
        Object[] with = new Object[types.length];
        for (int i = 0; i < types.length; i++) {
            int low = EDGES[dice.nextInt(dice.nextInt(3) == 0 ? EDGES.length : 8)];
            with[i] = types[i] == long.class ? (Object) textOrNoise(dice) : (Object) low;
        }
        try {
            return (int) call.invoke(x, with);
        } catch (InvocationTargetException e) {
            System.out.println(call + " threw " + e.getCause() + " with " + List.of(with));
            throw e;
        }
    }

    private static long textOrNoise(Random dice) {
        String[] parts = {"1p0;2p0", "5c0:1;", "pc,cg", ",gp", "7t1:9", "9o0:30;9", "       ", "0p0;0p0;", "99999999", "lt,tl"};
        return dice.nextInt(5) == 0 ? dice.nextLong() : Due.packed(parts[dice.nextInt(parts.length)]);
    }
}
