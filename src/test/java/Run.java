import java.lang.reflect.InvocationTargetException;
import java.lang.reflect.Method;
import java.lang.reflect.Modifier;
import java.util.ArrayList;
import java.util.HashMap;
import java.util.List;
import java.util.Map;
import java.util.NoSuchElementException;

/**
 * A run of calls on one new object, written down, so that the same calls can be made on another one:
 * what a state is can be asked in full without a call too many, and without a call that disturbs it.
 */
final class Run {
    /** The answer of a call that throws NoSuchElementException. */
    static final long THROWN = Long.MIN_VALUE;

    private static final int HELPER = 5;
    private static final int PLACES = 6;
    private static final int ROW = 17;
    private static final int NO_LIMIT = 1 << 20;

    /** A call by its name, with the signs that are to be put behind THE TEXT ahead of it (null: none). */
    record Call(String name, String signs, long... arguments) {
        static Call of(String name, long... arguments) {
            return new Call(name, null, arguments);
        }

        @Override
        public String toString() {
            StringBuilder result = new StringBuilder(name);
            for (long argument : arguments) {
                result.append(' ').append(argument);
            }
            return signs == null ? result.toString() : result.append(" \"" + signs + "\"").toString();
        }
    }

    private final Object object;
    private final Map<String, Method> methods = new HashMap<>();
    private final List<Call> done = new ArrayList<>();

    private Run(Object object) {
        this.object = object;
        for (Method method : object.getClass().getDeclaredMethods()) {
            if (Modifier.isPublic(method.getModifiers())) {
                methods.put(method.getName(), method);
            }
        }
    }

    static Run ofProgram() {
        return new Run(new Used());
    }

    static Run ofModel(PlainModel model) {
        return new Run(model);
    }

    /** A new object in the same state: the program's has had the same calls. */
    Run again() {
        if (object instanceof PlainModel model) {
            return new Run(model.copy());
        }
        Run result = ofProgram();
        for (Call call : done) {
            result.call(call);
        }
        return result;
    }

    int left() {
        return object instanceof Used used ? used.left() : NO_LIMIT;
    }

    int calls() {
        return done.size();
    }

    long call(String name, long... arguments) {
        return call(Call.of(name, arguments));
    }

    /** The answer: true is 1, false 0. */
    long call(Call call) {
        if (call.signs != null) {
            sign(call.signs);
        }
        done.add(Call.of(call.name, call.arguments));
        Method method = methods.get(call.name);
        if (method == null || method.getParameterCount() != call.arguments.length) {
            throw new IllegalArgumentException("no such call: " + call);
        }
        Object[] arguments = new Object[call.arguments.length];
        for (int a = 0; a < arguments.length; a++) {
            boolean wide = method.getParameterTypes()[a] == long.class;
            arguments[a] = wide ? (Object) call.arguments[a] : (Object) (int) call.arguments[a];
        }
        try {
            Object answer = method.invoke(object, arguments);
            return answer instanceof Boolean truth ? (truth ? 1 : 0) : ((Number) answer).longValue();
        } catch (InvocationTargetException e) {
            if (e.getCause() instanceof NoSuchElementException) {
                return THROWN;
            }
            throw new IllegalStateException(call + " threw", e.getCause());
        } catch (IllegalAccessException e) {
            throw new IllegalStateException(e);
        }
    }

    /** Puts signs behind THE TEXT, whatever their number is. */
    void sign(String signs) {
        long had = signs.length() % 4 == 0 ? 0 : call("count", 3);
        for (int p = 0; p < signs.length(); p += 4) {
            int v = 0;
            for (int s = p; s < p + 4; s++) {
                v = v << 8 | (s < signs.length() ? signs.charAt(s) : 0);
            }
            call("sign", v);
        }
        if (signs.length() % 4 != 0) {
            call("end", had + signs.length());
        }
    }

    /** PLACE k has from .. from + n - 1, made by doubling; the helping PLACE 5 is empty behind it. */
    void rising(long k, long from, long n) {
        call("fills", Math.min(n, 1), from, k);
        for (long size = 1; size < n; size *= 2) {
            call("keeps", k, Math.min(size, n - size), HELPER);
            call("adds", HELPER, 0, Math.min(size, n - size), size, HELPER);
            call("appends", k, HELPER, k);
        }
        call("fills", 0, 0, HELPER);
    }

    // ---- what the state is

    /** All that can be asked, each question with its answer: asked of other objects, so this run stays. */
    List<String> state(boolean rowToo) {
        List<Call[]> questions = new ArrayList<>();
        for (int i = 0; i < ROW && rowToo; i++) {
            questions.add(new Call[] {Call.of("row", i)});
        }
        for (int what = 0; what < 5; what++) {
            if (rowToo || what != 2) {
                questions.add(new Call[] {Call.of("count", what)});
            }
        }
        numbers(questions);
        sharing(questions);
        List<String> result = new ArrayList<>();
        ask(questions, result);
        // These read THE TEXT and change a PLACE: each has an object of its own.
        ask(List.<Call[]>of(asRead("tells")), result);
        ask(List.<Call[]>of(asRead("grows")), result);
        return result;
    }

    private void numbers(List<Call[]> questions) {
        for (int i = 0; i < PLACES; i++) {
            long size = again().call("size", i);
            for (int index = 0; index <= size; index++) {
                questions.add(new Call[] {Call.of("get", i, index)});
            }
        }
    }

    private static void sharing(List<Call[]> questions) {
        Call least = Call.of("row", 0);
        Call other = Call.of("row", 1);
        questions.add(new Call[] {Call.of("nodes"), least, other});
        for (int i = 0; i < PLACES; i++) {
            questions.add(new Call[] {Call.of("own", i), least});
            questions.add(new Call[] {Call.of("twins", i), least, other});
            questions.add(new Call[] {Call.of("size", i), least, other});
            for (int j = 0; j < i; j++) {
                questions.add(new Call[] {Call.of("same", j, i), least, other});
            }
        }
    }

    private static Call[] asRead(String name) {
        return new Call[] {Call.of(name, 0), Call.of("get", 0, 0), Call.of("get", 0, 1), Call.of("get", 0, 2)};
    }

    /** As many objects are asked as it takes to ask none of them too often. */
    private void ask(List<Call[]> questions, List<String> result) {
        Run asked = again();
        for (Call[] question : questions) {
            if (asked.left() < question.length) {
                asked = again();
            }
            for (Call call : question) {
                result.add(call + " = " + asked.call(call));
            }
        }
    }
}
