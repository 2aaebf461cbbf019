import java.lang.reflect.InvocationTargetException;
import java.lang.reflect.Method;
import java.lang.reflect.Modifier;
import java.util.Random;

/** No call throws or fails to end, for any numbers in any state; what extreme numbers ask for is refused. */
public final class BoundsTest {
    private static final Check CHECK = new Check();
    private static final int[] INTS = {Integer.MIN_VALUE, Integer.MIN_VALUE + 1, -1000, -401, -21, -20, -13, -2, -1, 0, 1, 2, 3, 4, 5, 6, 7,
        8, 9, 12, 13, 20, 21, 59, 60, 61, 99, 100, 101, 399, 400, 401, 499, 500, 4095, 4096, 65536, Integer.MAX_VALUE - 1, Integer.MAX_VALUE};
    private static final long[] LONGS = {Long.MIN_VALUE, Long.MIN_VALUE + 1, Integer.MIN_VALUE, -1, 0, 1, 2, 41, 1000, Integer.MAX_VALUE,
        1L << 32, 6727090051741041925L, 6727090051741041926L, Long.MAX_VALUE - 1, Long.MAX_VALUE};

    public static void main(String[] args) throws IllegalAccessException {
        for (int state = 0; state < 6; state++) {
            for (Method method : PartitionPress.class.getDeclaredMethods()) {
                if (Modifier.isPublic(method.getModifiers())) {
                    extremes(method, state);
                    mixed(method, state);
                }
            }
        }
        CHECK.end();
    }

    private static PartitionPress made(int state) {
        PartitionPress press = new PartitionPress();
        press.law(1, 1, 12, 4095, 400, 0);
        press.law(2, 2, 20, 12, 5, 20);
        press.law(3, 3, 60, 60, 0, 0);
        press.law(4, 4, 0, 0, 0, 0);
        press.law(5, 5, 12, 0, 0, 0);
        press.law(6, 3, 0, 0, 0, 0);
        press.law(7, 1, 1, 0, 0, 0);
        for (int s = 0; s < 8; s++) {
            switch (state) {
                case 1:
                    press.tell(0, 400, 0, s);
                    break;
                case 2:
                    press.tell(0, 400, press.count(0, 400) - 1, s);
                    break;
                case 3:
                    press.tell(0, 400, press.count(0, 400) / 9 * (s + 1), s);
                    break;
                case 4:
                    press.tell(0, 30, 700 * s, s);
                    break;
                case 5:
                    press.tell(0, 3 + s, 0, s);
                    break;
                default:
                    break;
            }
        }
        for (int i = 0; i < 30 && state == 3; i++) {
            press.undo();
            press.counts(i % 4, i % 8);
        }
        return press;
    }

    /** An extreme number in each place, the others being good. */
    private static void extremes(Method method, int state) throws IllegalAccessException {
        PartitionPress press = made(state);
        Class<?>[] types = method.getParameterTypes();
        for (int place = 0; place < types.length; place++) {
            for (int i = 0; i < INTS.length; i++) {
                Object[] numbers = new Object[types.length];
                for (int j = 0; j < types.length; j++) {
                    int good = 2 - j % 2;
                    numbers[j] = types[j] == long.class ? (Object) (long) good : (Object) good;
                }
                numbers[place] = types[place] == long.class ? (Object) LONGS[i % LONGS.length] : (Object) INTS[i];
                call(press, method, numbers);
            }
        }
        for (int far : new int[] {Integer.MIN_VALUE, Integer.MAX_VALUE}) {
            Object[] numbers = new Object[types.length];
            for (int j = 0; j < types.length; j++) {
                numbers[j] = types[j] == long.class ? (Object) (far < 0 ? Long.MIN_VALUE : Long.MAX_VALUE) : (Object) far;
            }
            long answer = call(press, method, numbers);
            if (types.length > 0) {
                long want = method.getName().equals("told") ? PartitionPress.NONE
                    : method.getName().equals("series") ? Long.MIN_VALUE : PartitionPress.RANGE;
                CHECK.due(method.getName() + " with " + far, answer, want);
            }
        }
    }

    private static void mixed(Method method, int state) throws IllegalAccessException {
        Random random = new Random(state);
        PartitionPress press = made(state);
        Class<?>[] types = method.getParameterTypes();
        for (int i = 0; i < 1500; i++) {
            Object[] numbers = new Object[types.length];
            for (int j = 0; j < types.length; j++) {
                int small = random.nextInt(14) - 1;
                boolean far = random.nextInt(4) == 0;
                numbers[j] = types[j] == long.class ? (Object) LONGS[random.nextInt(LONGS.length)]
                    : (Object) (far ? INTS[random.nextInt(INTS.length)] : small);
            }
            call(press, method, numbers);
        }
        for (int s = 0; s < 8; s++) {
            int[] sum = Sums.read(press, s);
            CHECK.due("n behind " + method.getName(), press.sheet(s, 0), Sums.total(sum));
            CHECK.holds("n is 0 .. 400", Sums.total(sum) <= 400);
        }
    }

    private static long call(PartitionPress press, Method method, Object[] numbers) throws IllegalAccessException {
        try {
            Object answer = method.invoke(press, numbers);
            CHECK.holds("an answer", answer != null);
            return ((Number) answer).longValue();
        } catch (InvocationTargetException e) {
            CHECK.holds(method.getName() + java.util.Arrays.toString(numbers) + " threw " + e.getCause(), false);
            return 0;
        }
    }
}
