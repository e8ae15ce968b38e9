import java.lang.reflect.InvocationTargetException;
import java.lang.reflect.Method;
import java.util.Map;

/** Whatever numbers a call is given, in whatever state: it ends, throws nothing, and answers within its range. */
public final class AnyNumbersTest {
    private static final int[] NUMBERS = {Integer.MIN_VALUE, Integer.MIN_VALUE + 1, -1000, -3, -2, -1, 0, 1, 2, 3, 4, 7, 8, 9, 10,
        23, 24, 30, 31, 60, 61, 99, 100, 300, 301, 9999, 10000, 12345670, Integer.MAX_VALUE - 1, Integer.MAX_VALUE};
    /** The 60 MINUTES of eight HOUSES can have a debt each; a ROUTE can have seven LANES for each of WANTED. */
    private static final Map<String, int[]> RANGES = Map.ofEntries(
            Map.entry("house", new int[] {-1, 7}), Map.entry("lane", new int[] {0, 1}), Map.entry("pusher", new int[] {-1, 3}),
            Map.entry("push", new int[] {-1, 999}), Map.entry("tip", new int[] {0, 1}), Map.entry("mend", new int[] {0, 1}),
            Map.entry("minute", new int[] {-1, 480}), Map.entry("years", new int[] {-1, 9999}), Map.entry("feed", new int[] {-1, 300}),
            Map.entry("end", new int[] {-1, 300}), Map.entry("text", new int[] {-1, 3}), Map.entry("fault", new int[] {-1, 300}),
            Map.entry("by", new int[] {0, 1}), Map.entry("played", new int[] {-2, 23}), Map.entry("undo", new int[] {-1, 29}),
            Map.entry("of", new int[] {-1000, 9999}), Map.entry("two", new int[] {-1, 99}), Map.entry("barrow", new int[] {-2, 9999}),
            Map.entry("hard", new int[] {-1, 999}), Map.entry("book", new int[] {-2, 9999}), Map.entry("foretold", new int[] {-1000, 9999}),
            Map.entry("arrives", new int[] {-1, 60}), Map.entry("want", new int[] {-2, 8}), Map.entry("fitting", new int[] {0, 255}),
            Map.entry("route", new int[] {-2, 56}), Map.entry("least", new int[] {-3, 6993}), Map.entry("winner", new int[] {-1, 7}),
            Map.entry("agenda", new int[] {-1, 7}), Map.entry("weight", new int[] {0, 1}), Map.entry("fair", new int[] {-1, 7}),
            Map.entry("feel", new int[] {-2, 8}), Map.entry("lost", new int[] {0, 255}), Map.entry("yard", new int[] {-1, 7}),
            Map.entry("thieves", new int[] {-1, 7}), Map.entry("watch", new int[] {-1, 224}), Map.entry("image", new int[] {0, 9999}),
            Map.entry("back", new int[] {0, 9999}), Map.entry("about", new int[] {-2, 30312}));
    private static final int CALLS = 300;

    private static long answer(NoonOnABarrow x, Method call, Object[] numbers) throws IllegalAccessException {
        try {
            Object answer = call.invoke(x, numbers);
            return answer instanceof Boolean ? ((Boolean) answer ? 1 : 0) : (Integer) answer;
        } catch (InvocationTargetException thrown) {
            System.out.println(told(call, numbers) + " threw " + thrown.getCause());
            return Long.MIN_VALUE;
        }
    }

    private static String told(Method call, Object[] numbers) {
        return call.getName() + java.util.Arrays.toString(numbers);
    }

    /** All rows of as many numbers as the call takes; of more than three, each number in each place. */
    private static Object[] row(int takes, int i) {
        Object[] row = new Object[takes];
        int rest = i;
        for (int k = 0; k < takes; k++) {
            row[k] = takes > 3 ? NUMBERS[(i * (k + 1) + k) % NUMBERS.length] : NUMBERS[rest % NUMBERS.length];
            rest /= NUMBERS.length;
        }
        return row;
    }

    private static int rows(int takes) {
        int rows = 1;
        for (int k = 0; k < Math.min(3, takes); k++) {
            rows *= NUMBERS.length;
        }
        return takes > 3 ? NUMBERS.length : rows;
    }

    private static void anyNumbers(State state, Method call) throws IllegalAccessException {
        int[] range = RANGES.get(call.getName());
        int takes = call.getParameterCount();
        NoonOnABarrow x = state.come();
        int calls = 0;
        int outside = 0;
        for (int i = 0; i < rows(takes); i++) {
            if (calls == CALLS) {
                x = state.come();
                calls = 0;
            }
            calls++;
            Object[] numbers = row(takes, i);
            long answer = answer(x, call, numbers);
            if (answer < range[0] || answer > range[1]) {
                outside++;
                System.out.println(told(call, numbers) + " of " + state + " answered " + answer);
            }
        }
        Due.is("answers of " + call.getName() + " outside its range, " + state, outside, 0);
    }

    public static void main(String[] args) throws IllegalAccessException {
        int calls = 0;
        for (Method call : NoonOnABarrow.class.getDeclaredMethods()) {
            if (java.lang.reflect.Modifier.isPublic(call.getModifiers())) {
                calls++;
                for (State state : State.values()) {
                    anyNumbers(state, call);
                }
            }
        }
        Due.is("calls of the face", calls, RANGES.size());
        Due.close();
    }
}
