import java.lang.reflect.Method;
import java.lang.reflect.Modifier;
import java.lang.reflect.Parameter;
import java.util.Arrays;
import java.util.Random;

/** Long runs of any calls, with the same answers due from the program and from the plain model. */
public final class ModelTest {
    private static final int RUNS = 600;
    private static final String[] DEAR = {
        "turned", "turned", "appends", "heaps", "parts", "keeps", "skips", "reverses", "roots", "fills", "nodes", "same"};

    private final Random random;
    private final Both both = new Both();
    private final Method[] calls;
    private final int style;
    private int size = 0;

    private ModelTest(int run) {
        random = new Random(run);
        style = run % 4;
        calls = Arrays.stream(PlainModel.class.getDeclaredMethods())
            .filter(method -> Modifier.isPublic(method.getModifiers()))
            .sorted((a, b) -> a.getName().compareTo(b.getName())).toArray(Method[]::new);
    }

    public static void main(String[] args) {
        int runs = args.length > 0 ? Integer.parseInt(args[0]) : RUNS;
        for (int run = 0; run < runs; run++) {
            ModelTest test = new ModelTest(run);
            test.run();
            if (!test.both.alike()) {
                test.both.tell("ModelTest, run " + run);
                System.exit(1);
            }
        }
        System.out.println("ModelTest: " + runs + " runs, all answers are as due");
    }

    private void run() {
        if (style > 0) {
            for (int k = 0; k < 6; k++) {
                both.call("fills", 255 >> random.nextInt(style == 1 ? 2 : 7), random.nextInt(9) - 4, k);
            }
        }
        // A text takes 51 calls to be told, the ROW 18 to be asked; some are left to ask what the state is.
        int spare = 80 + random.nextInt(200);
        while (both.left() > spare && both.alike()) {
            if (random.nextInt(style == 0 ? 5 : 100) == 0) {
                text();
            } else {
                any();
            }
            if (random.nextInt(3) == 0) {
                both.row();
            }
            if (random.nextInt(4) == 0) {
                both.call("count", random.nextInt(5));
            }
        }
        if (both.alike()) {
            both.state();
        }
    }

    private void any() {
        Method call = calls[random.nextInt(calls.length)];
        if (style == 1 && random.nextBoolean()) {
            String dear = DEAR[random.nextInt(DEAR.length)];
            call = Arrays.stream(calls).filter(method -> method.getName().equals(dear)).findFirst().orElseThrow();
        }
        long[] arguments = new long[call.getParameterCount()];
        for (int a = 0; a < arguments.length; a++) {
            Parameter parameter = call.getParameters()[a];
            arguments[a] = parameter.getType() == long.class ? indexes() : argument(call.getName(), parameter.getName());
            size = parameter.getName().equals("i") ? both.sizeFor((int) arguments[a]) : size;
        }
        both.call(call.getName(), arguments);
    }

    private long indexes() {
        long any = random.nextLong();
        return random.nextInt(4) > 0 ? any & random.nextLong() & (1L << 62) - 1 : any;
    }

    private int argument(String call, String name) {
        if (random.nextInt(60) == 0) {
            int[] edges = {-1, 256, 1000, -1000, Integer.MAX_VALUE, Integer.MIN_VALUE, 6, 7, 8, 62, -2, 5};
            return edges[random.nextInt(edges.length)];
        }
        switch (name) {
            case "k":
            case "j":
                return random.nextInt(6);
            case "i":
                return call.equals("row") ? random.nextInt(20) - 2 : random.nextInt(6);
            case "v":
                return call.equals("sign") ? random.nextInt() : number(call);
            case "side":
                return random.nextInt(2);
            case "what":
                return random.nextInt(6);
            case "d":
                return random.nextInt(9);
            case "p":
                return random.nextInt(4) == 0 ? -1 : random.nextInt(random.nextBoolean() ? 20 : 2000);
            case "l":
            case "r":
                return call.equals("parts") ? random.nextInt(6) : call.equals("picks") ? number(call) : index();
            default:
                return index();
        }
    }

    private int number(String call) {
        if (call.equals("reaches") && random.nextBoolean()) {
            return random.nextInt(4000) - 500;
        }
        return random.nextInt(3) > 0 ? random.nextInt(13) - 6 : random.nextInt(1999) - 999;
    }

    private int index() {
        switch (random.nextInt(6)) {
            case 0:
                return random.nextInt(4);
            case 1:
                return random.nextInt(257);
            case 2:
                return size + random.nextInt(3) - 1;
            default:
                return random.nextInt(size + 1);
        }
    }

    /** A row or a TREE as a text, right or not, and the call that reads it. */
    private void text() {
        boolean tree = random.nextBoolean();
        String signs = tree ? tree(random.nextInt(40)) : row(random.nextInt(60));
        signs = signs.substring(0, Math.min(200, signs.length()));
        if (random.nextInt(4) == 0 && !signs.isEmpty()) {
            int p = random.nextInt(signs.length());
            String other = random.nextInt(3) == 0 ? "" : "" + "().,-0123456789 x".charAt(random.nextInt(17));
            signs = signs.substring(0, p) + other + signs.substring(p + random.nextInt(2));
            signs = signs.substring(0, Math.min(200, signs.length()));
        }
        both.call("end", 0);
        both.sign(signs);
        boolean readAsTold = random.nextInt(30) > 0;
        both.call(tree == readAsTold ? "grows" : "tells", random.nextInt(20) > 0 ? random.nextInt(6) : 6);
    }

    private String told() {
        String[] odd = {"0", "-0", "007", "00", "-999", "999", "-001"};
        return random.nextInt(6) == 0 ? odd[random.nextInt(odd.length)] : "" + (random.nextInt(21) - 10);
    }

    private String row(int n) {
        StringBuilder result = new StringBuilder();
        for (int x = 0; x < n; x++) {
            result.append(x > 0 ? "," : "").append(told());
        }
        return result.toString();
    }

    private String tree(int n) {
        if (n == 0) {
            return ".";
        }
        int left = n / 2;
        if (random.nextInt(30) == 0) {
            left = random.nextInt(n);
        }
        return "(" + told() + tree(left) + tree(n - 1 - left) + ")";
    }
}
