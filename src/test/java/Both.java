import java.util.ArrayList;
import java.util.List;

/** The same run of calls on the program and on the plain model, which are to answer alike. */
final class Both {
    private static final int TOLD = 40;

    private final Run program = Run.ofProgram();
    private final PlainModel plain = new PlainModel();
    private final Run model = Run.ofModel(plain);
    private final List<String> done = new ArrayList<>();
    private boolean alike = true;

    boolean alike() {
        return alike;
    }

    int left() {
        return program.left();
    }

    /** How many NUMBERS a PLACE has; no call of the program. */
    int sizeFor(int i) {
        return plain.sizeFor(i);
    }

    void call(String name, long... arguments) {
        long got = program.call(name, arguments);
        compare(Run.Call.of(name, arguments).toString(), got, model.call(name, arguments));
    }

    private void compare(String call, long got, long want) {
        done.add(call + " answered " + got + ", due is " + want);
        alike &= got == want;
    }

    void row() {
        long many = model.call("count", 2);
        call("count", 2);
        for (int i = 0; i <= many; i++) {
            call("row", i);
        }
    }

    void rising(long k, long from, long n) {
        program.rising(k, from, n);
        model.rising(k, from, n);
    }

    void sign(String signs) {
        program.sign(signs);
        model.sign(signs);
    }

    /** All that can be asked is alike. */
    void state() {
        List<String> got = program.state(true);
        List<String> want = model.state(true);
        for (int i = 0; i < Math.max(got.size(), want.size()); i++) {
            String is = i < got.size() ? got.get(i) : "";
            String due = i < want.size() ? want.get(i) : "";
            if (!is.equals(due)) {
                alike = false;
                done.add("at the end: " + is + ", due is " + due);
                return;
            }
        }
    }

    /** Tells the last calls of a run that is not alike. */
    void tell(String name) {
        System.out.println(name + ", call " + done.size());
        for (String line : done.subList(Math.max(0, done.size() - TOLD), done.size())) {
            System.out.println("  " + line);
        }
    }
}
