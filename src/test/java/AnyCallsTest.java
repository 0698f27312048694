import java.lang.reflect.InvocationTargetException;
import java.lang.reflect.Method;
import java.lang.reflect.Modifier;
import java.util.Arrays;
import java.util.Comparator;
import java.util.Random;

/** Calls with any arguments in any state, far more than 512 too: nothing is thrown but what the face documents. */
public final class AnyCallsTest {
    private static final int[] NUMBERS = {Integer.MIN_VALUE, Integer.MAX_VALUE, -1000001, -1000000, 1000000, 1000001,
        -1000, -999, -8, -7, -6, -5, -4, -3, -2, -1, 0, 1, 2, 3, 4, 5, 6, 7, 8, 9, 10, 11, 12, 19, 20, 21, 30, 99, 100,
        9999, 10000, 10001};

    private static int number(Random random) {
        return random.nextInt(3) > 0 ? random.nextInt(4) : random.nextInt(4) == 0 ? random.nextInt()
            : NUMBERS[random.nextInt(NUMBERS.length)];
    }

    private static Object[] arguments(Method method, Random random) {
        Object[] arguments = new Object[method.getParameterCount()];
        for (int i = 0; i < arguments.length; i++) {
            boolean truth = method.getParameterTypes()[i] == boolean.class;
            arguments[i] = truth ? (Object) random.nextBoolean() : (Object) number(random);
            if (!truth && i > 1 && random.nextInt(3) == 0) {
                arguments[i] = Keyterrace.ABSENT;
            }
        }
        return arguments;
    }

    /** Whether the face documents an exception: its class itself, and thrown by the program's own code. */
    private static boolean isDocumented(Method method, Throwable thrown) {
        boolean own = thrown.getStackTrace()[0].getClassName().startsWith("Keyterrace");
        return own && Arrays.asList(method.getExceptionTypes()).contains(thrown.getClass());
    }

    private static boolean run(Method[] methods, Random random, int calls) throws Exception {
        Keyterrace x = new Keyterrace();
        for (int i = 0; i < calls; i++) {
            Method method = methods[random.nextInt(methods.length)];
            Object[] arguments = arguments(method, random);
            try {
                method.invoke(x, arguments);
            } catch (InvocationTargetException e) {
                if (!isDocumented(method, e.getCause())) {
                    System.out.println(method.getName() + Arrays.toString(arguments) + " threw " + e.getCause());
                    return false;
                }
            }
        }
        return true;
    }

    public static void main(String[] args) throws Exception {
        Method[] methods = Arrays.stream(Keyterrace.class.getDeclaredMethods())
            .filter(m -> Modifier.isPublic(m.getModifiers())).toArray(Method[]::new);
        Arrays.sort(methods, Comparator.comparing(Method::getName));
        Random random = new Random(35);
        boolean right = true;
        for (int i = 0; i < 300 && right; i++) {
            right = run(methods, random, 512);
        }
        Check.holds("512 calls throw what is documented", right);
        Check.holds("so do far more calls", run(methods, random, 100000));
        Check.end();
    }
}
