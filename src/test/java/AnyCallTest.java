import java.lang.reflect.InvocationTargetException;
import java.lang.reflect.Method;
import java.lang.reflect.Modifier;
import java.util.Arrays;
import java.util.Comparator;
import java.util.NoSuchElementException;
import java.util.Random;

/**
 * No call throws by itself, for any arguments in any state. The language asks that of calls behind the
 * 512th, too, whose answers are free: so these are made on the program itself, and no answer is looked at.
 */
public final class AnyCallTest {
    private static final int OBJECTS = 10;
    private static final int CALLS = 100_000;
    private static final int[] EDGES = {-2, -1, 0, 1, 2, 5, 6, 7, 8, 15, 16, 17, 61, 62, 63, 127, 128, 199, 200, 201,
        253, 254, 255, 256, 998, 999, 1000, -999, -1000, Integer.MAX_VALUE, Integer.MAX_VALUE - 1, Integer.MIN_VALUE};
    private static final String SIGNS = "(((..)),-0123456789 \u00ff";

    private final Random random = new Random(512);
    private final Check check = new Check();
    private final Method[] calls = Arrays.stream(EvenTrees.class.getDeclaredMethods())
        .filter(method -> Modifier.isPublic(method.getModifiers()))
        .sorted(Comparator.comparing(Method::getName)).toArray(Method[]::new);

    public static void main(String[] args) throws IllegalAccessException {
        AnyCallTest test = new AnyCallTest();
        test.check.part("any call");
        for (int object = 0; object < OBJECTS; object++) {
            test.run(new EvenTrees());
        }
        test.check.finish("AnyCallTest");
    }

    private void run(EvenTrees x) throws IllegalAccessException {
        for (int call = 0; call < CALLS; call++) {
            Method method = calls[random.nextInt(calls.length)];
            Object[] arguments = new Object[method.getParameterCount()];
            for (int a = 0; a < arguments.length; a++) {
                boolean bits = method.getParameterTypes()[a] == long.class;
                arguments[a] = bits ? (Object) (random.nextLong() >>> random.nextInt(64)) : (Object) argument(method);
            }
            try {
                method.invoke(x, arguments);
            } catch (InvocationTargetException e) {
                boolean due = method.getName().equals("row") && e.getCause() instanceof NoSuchElementException;
                check.holds(method.getName() + Arrays.toString(arguments) + " threw " + e.getCause(), due);
            }
        }
    }

    private int argument(Method method) {
        if (method.getName().equals("sign") && random.nextInt(20) > 0) {
            int v = 0;
            for (int sign = 0; sign < 4; sign++) {
                v = v << 8 | SIGNS.charAt(random.nextInt(SIGNS.length()));
            }
            return v;
        }
        switch (random.nextInt(6)) {
            case 0:
                return EDGES[random.nextInt(EDGES.length)];
            case 1:
                return random.nextInt(256);
            case 2:
                return random.nextInt(1999) - 999;
            default:
                return random.nextInt(6);
        }
    }
}
