import java.lang.reflect.InvocationTargetException;
import java.lang.reflect.Method;
import java.lang.reflect.Parameter;
import java.util.ArrayList;
import java.util.Arrays;
import java.util.List;
import java.util.Random;

/** Long runs of any calls, with the same answers due from the program and from the plain model. */
public final class ModelTest {
    private static final int RUNS = 400;
    private static final int CALLS = 512;
    private static final String[] DEAR = {
        "turned", "turned", "appends", "heaps", "parts", "keeps", "skips", "reverses", "roots", "fills", "nodes", "same"};

    private final Random random;
    private final EvenTrees program = new EvenTrees();
    private final PlainModel model = new PlainModel();
    private final List<String> done = new ArrayList<>();
    private final Method[] calls;
    private final int style;
    private int size = 0;

    private ModelTest(int run) {
        random = new Random(run);
        style = run % 4;
        calls = Arrays.stream(EvenTrees.class.getDeclaredMethods())
            .filter(m -> java.lang.reflect.Modifier.isPublic(m.getModifiers()))
            .sorted((a, b) -> a.getName().compareTo(b.getName())).toArray(Method[]::new);
    }

    public static void main(String[] args) throws Exception {
        int runs = args.length > 0 ? Integer.parseInt(args[0]) : RUNS;
        for (int run = 0; run < runs; run++) {
            if (!new ModelTest(run).run(run)) {
                System.exit(1);
            }
        }
        System.out.println("ModelTest: " + runs + " runs of " + CALLS + " calls, all answers are as due");
    }

    private boolean run(int run) throws Exception {
        if (style > 0) {
            for (int k = 0; k < 6; k++) {
                call("fills", 255 >> random.nextInt(style == 1 ? 2 : 7), random.nextInt(9) - 4, k);
            }
        }
        while (done.size() < CALLS) {
            Method call = calls[random.nextInt(calls.length)];
            if (style == 1 && random.nextBoolean()) {
                String dear = DEAR[random.nextInt(DEAR.length)];
                call = Arrays.stream(calls).filter(m -> m.getName().equals(dear)).findFirst().orElseThrow();
            }
            boolean right = random.nextInt(style == 0 ? 5 : 200) > 0 ? callOf(call) : text();
            if (!right) {
                System.out.println("run " + run + ", call " + done.size());
                for (String line : done.subList(Math.max(0, done.size() - 30), done.size())) {
                    System.out.println("  " + line);
                }
                return false;
            }
        }
        return wholeStateAgrees(run);
    }

    private boolean wholeStateAgrees(int run) throws Exception {
        boolean right = call("nodes");
        for (int i = 0; i < 6; i++) {
            right &= call("own", i) && call("twins", i) && call("size", i);
            int size = program.size(i);
            for (int x = 0; x <= size; x++) {
                right &= call("get", i, x);
            }
            for (int j = 0; j < 6; j++) {
                right &= call("same", i, j);
            }
        }
        if (!right) {
            System.out.println("run " + run + ": the state is not as due");
        }
        return right;
    }

    private boolean callOf(Method call) throws Exception {
        Object[] arguments = new Object[call.getParameterCount()];
        for (int a = 0; a < arguments.length; a++) {
            Parameter parameter = call.getParameters()[a];
            arguments[a] = parameter.getType() == long.class ? indexes() : argument(call.getName(), parameter.getName());
            size = parameter.getName().equals("i") ? model.sizeFor((Integer) arguments[a]) : size;
        }
        return call(call.getName(), arguments);
    }

    private Object indexes() {
        long any = random.nextLong();
        return random.nextInt(4) > 0 ? any & random.nextLong() & (1L << 62) - 1 : any;
    }

    private int argument(String call, String name) {
        if (random.nextInt(60) == 0) {
            int[] edges = {-1, 256, 1000, -1000, Integer.MAX_VALUE, Integer.MIN_VALUE, 6, 7, 8, 62, -2, 5};
            return edges[random.nextInt(edges.length)];
        }
        switch (name) {
            case "k":
            case "j":
                return random.nextInt(6);
            case "i":
                return call.equals("row") ? random.nextInt(20) - 2 : random.nextInt(6);
            case "v":
                return call.equals("sign") ? random.nextInt() : number(call);
            case "side":
                return random.nextInt(2);
            case "what":
                return random.nextInt(6);
            case "d":
                return random.nextInt(9);
            case "p":
                return random.nextInt(4) == 0 ? -1 : random.nextInt(random.nextBoolean() ? 20 : 2000);
            case "l":
            case "r":
                return call.equals("parts") ? random.nextInt(6) : call.equals("picks") ? number(call) : index();
            default:
                return index();
        }
    }

    private int number(String call) {
        if (call.equals("reaches") && random.nextBoolean()) {
            return random.nextInt(4000) - 500;
        }
        return random.nextInt(3) > 0 ? random.nextInt(13) - 6 : random.nextInt(1999) - 999;
    }

    private int index() {
        switch (random.nextInt(6)) {
            case 0:
                return random.nextInt(4);
            case 1:
                return random.nextInt(257);
            case 2:
                return size + random.nextInt(3) - 1;
            default:
                return random.nextInt(size + 1);
        }
    }

    /** A row or a TREE as a text, right or not, and the call that reads it. */
    private boolean text() throws Exception {
        boolean tree = random.nextBoolean();
        String signs = tree ? tree(random.nextInt(40)) : row(random.nextInt(60));
        signs = signs.substring(0, Math.min(200, signs.length()));
        if (random.nextInt(4) == 0 && !signs.isEmpty()) {
            int p = random.nextInt(signs.length());
            String other = random.nextInt(3) == 0 ? "" : "" + "().,-0123456789 x".charAt(random.nextInt(17));
            signs = signs.substring(0, p) + other + signs.substring(p + random.nextInt(2));
            signs = signs.substring(0, Math.min(200, signs.length()));
        }
        boolean right = call("end", 0);
        for (int p = 0; p < signs.length(); p += 4) {
            int v = 0;
            for (int s = p; s < p + 4; s++) {
                v = v << 8 | (s < signs.length() ? signs.charAt(s) : random.nextInt(256));
            }
            right &= call("sign", v);
        }
        if (random.nextInt(20) > 0) {
            right &= call("end", signs.length());
        }
        return right & call(tree == random.nextInt(30) > 0 ? "grows" : "tells", random.nextInt(20) > 0 ? random.nextInt(6) : 6);
    }

    private String told() {
        String[] odd = {"0", "-0", "007", "00", "-999", "999", "-001"};
        return random.nextInt(6) == 0 ? odd[random.nextInt(odd.length)] : "" + (random.nextInt(21) - 10);
    }

    private String row(int n) {
        StringBuilder result = new StringBuilder();
        for (int x = 0; x < n; x++) {
            result.append(x > 0 ? "," : "").append(told());
        }
        return result.toString();
    }

    private String tree(int n) {
        if (n == 0) {
            return ".";
        }
        int left = n / 2;
        if (random.nextInt(30) == 0) {
            left = random.nextInt(n);
        }
        return "(" + told() + tree(left) + tree(n - 1 - left) + ")";
    }

    // ---- one call of both

    private boolean call(String name, Object... arguments) throws Exception {
        String got = answer(program, name, arguments);
        String want = answer(model, name, arguments);
        done.add(name + Arrays.toString(arguments) + " answered " + got + ", due is " + want);
        return got.equals(want);
    }

    private static String answer(Object object, String name, Object[] arguments) throws Exception {
        for (Method method : object.getClass().getDeclaredMethods()) {
            if (method.getName().equals(name) && java.lang.reflect.Modifier.isPublic(method.getModifiers())) {
                try {
                    return method.invoke(object, arguments) + " " + state(object);
                } catch (InvocationTargetException e) {
                    return e.getCause().getClass().getName() + " " + state(object);
                }
            }
        }
        throw new IllegalStateException(name);
    }

    private static String state(Object object) {
        StringBuilder result = new StringBuilder();
        for (int what = 0; what < 5; what++) {
            result.append(object instanceof EvenTrees x ? x.count(what) : ((PlainModel) object).count(what)).append(' ');
        }
        int many = object instanceof EvenTrees x ? x.count(2) : ((PlainModel) object).count(2);
        for (int i = 0; i < many; i++) {
            result.append(' ').append(object instanceof EvenTrees x ? x.row(i) : ((PlainModel) object).row(i));
        }
        return result.toString();
    }
}
