import java.lang.reflect.InvocationTargetException;
import java.lang.reflect.Method;
import java.lang.reflect.Modifier;
import java.util.NoSuchElementException;

/** Every call with numbers far off, in many states: only sum() throws, and only what it may. */
public final class ExtremesTest {
    private static final int[] NUMBERS = {Integer.MIN_VALUE, Integer.MIN_VALUE + 1, -4097, -33, -32, -13, -2, -1, 0, 1, 2,
        3, 8, 11, 12, 13, 23, 24, 25, 31, 32, 33, 60, 61, 64, 255, 300, 340, 341, 4095, 4096, 1 << 30,
        Integer.MAX_VALUE - 1, Integer.MAX_VALUE};
    private static final String[] TEXTS = {"", "group 2;", "group 2;put 0 times 12;", "group 2;put 1 times 12;",
        "group 24;put 23 times 12;", "group 24;put 1 times 12;", "group 12;put 1 times 11;", "group 2 2 6;put 1 1 5;",
        "group 2 2 2;put 1 1 1 times 12;", "group 3 4;put 0 0;", "group 5 4;put 4 3 times 7;put 0 0 times 5;",
        "group 6;put 1 times 3;put 5 times 3;"};
    private static final Tester T = new Tester();

    public static void main(String[] args) {
        for (String text : TEXTS) {
            for (Method m : NoughtSums.class.getDeclaredMethods()) {
                if (Modifier.isPublic(m.getModifiers())) {
                    callWithAll(text, m);
                }
            }
        }
        T.finish();
    }

    private static void callWithAll(String text, Method m) {
        int count = m.getParameterCount();
        int runs = count == 0 ? 1 : count == 1 ? NUMBERS.length : NUMBERS.length * NUMBERS.length;
        for (int i = 0; i < runs; i++) {
            Object[] numbers = new Object[count];
            for (int j = 0; j < count; j++) {
                numbers[j] = j == 0 ? NUMBERS[i % NUMBERS.length] : NUMBERS[i / NUMBERS.length % NUMBERS.length];
            }
            NoughtSums x = Tester.of(text);
            int acts = x.now(5);
            Object answer = call(x, m, numbers);
            StringBuilder told = new StringBuilder(text).append(" ").append(m.getName());
            for (Object n : numbers) {
                told.append(' ').append(n);
            }
            T.due(told + " threw", false, answer instanceof Throwable
                && !(m.getName().equals("sum") && answer instanceof NoSuchElementException));
            if (Integer.valueOf(NoughtSums.NONE).equals(answer)) {
                T.due(told + " was an act though NONE", acts, x.now(5));
            }
        }
    }

    private static Object call(NoughtSums x, Method m, Object[] numbers) {
        try {
            return m.invoke(x, numbers);
        } catch (InvocationTargetException e) {
            return e.getCause();
        } catch (IllegalAccessException e) {
            throw new IllegalStateException(e);
        }
    }
}
