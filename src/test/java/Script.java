import java.util.ArrayList;
import java.util.Arrays;
import java.util.List;
import java.util.regex.Matcher;
import java.util.regex.Pattern;

/**
 * One case of src/test/sentences: lines that are run on a new object. README.md tells what a line may say.
 */
final class Script {
    private static final String RICH = "RICH";
    private static final Pattern WORD = Pattern.compile("\"([^\"]*)\"|(\\S+)");

    private final Check check;
    private final Run run = Run.ofProgram();
    private long mark = 0;
    private int due = 0;

    Script(Check check) {
        this.check = check;
    }

    /** How many answers were compared. */
    int due() {
        return due;
    }

    void line(String line) {
        int sign = line.lastIndexOf(" =");
        String said = sign < 0 ? line : line.substring(0, sign);
        List<Long> answers = sign < 0 ? null : numbers(line.substring(sign + 2));
        List<String> words = words(said);
        String first = words.get(0);
        switch (first) {
            case RICH -> rich();
            case "RISING" -> run.rising(number(words.get(1)), number(words.get(2)), number(words.get(3)));
            case "TEXT" -> run.sign(text(words.get(1)));
            case "ROW" -> row(line, answers);
            case "PLACE" -> place(line, number(words.get(1)), answers);
            case "MARK" -> mark = run.call("count", 1);
            case "MADE" -> compare(line, run.call("count", 1) - mark, answers.get(0));
            case "repeat" -> repeat(number(words.get(1)), words.subList(2, words.size()), answers);
            case "until" -> until(number(words.get(1)), words.subList(2, words.size()));
            case "no", "ask" -> {
                for (Run.Call call : calls(words.subList(1, words.size()))) {
                    stays(line, call, answers, first.equals("no"));
                }
            }
            default -> {
                for (Run.Call call : calls(words)) {
                    made(line, call, answers);
                }
            }
        }
    }

    // ---- what a line says

    private static List<String> words(String line) {
        List<String> result = new ArrayList<>();
        Matcher word = WORD.matcher(line);
        while (word.find()) {
            result.add(word.group());
        }
        return result;
    }

    private static long number(String word) {
        return switch (word) {
            case "max" -> Integer.MAX_VALUE;
            case "min" -> Integer.MIN_VALUE;
            case "longest" -> Long.MAX_VALUE;
            case "least" -> Long.MIN_VALUE;
            case "throws" -> Run.THROWN;
            default -> word.matches("2\\^\\d+") ? 1L << Integer.parseInt(word.substring(2)) : Long.decode(word);
        };
    }

    private static List<Long> numbers(String said) {
        List<Long> result = new ArrayList<>();
        for (String word : words(said)) {
            result.add(number(word));
        }
        return result;
    }

    /** What stands between quotes; {49 of (1} is such a part so many times. */
    private static String text(String word) {
        Matcher many = Pattern.compile("\\{(\\d+) of ([^}]*)\\}").matcher(word.substring(1, word.length() - 1));
        return many.replaceAll(part -> part.group(2).repeat(Integer.parseInt(part.group(1))));
    }

    private static long[] choices(String word) {
        return switch (word) {
            case "noplace" -> new long[] {-1, 6, Integer.MAX_VALUE, Integer.MIN_VALUE};
            case "nonumber" -> new long[] {-1000, 1000, Integer.MAX_VALUE, Integer.MIN_VALUE};
            default -> new long[] {number(word)};
        };
    }

    /** The calls that the words stand for: one for each choice. */
    private static List<Run.Call> calls(List<String> words) {
        List<long[]> arguments = new ArrayList<>();
        arguments.add(new long[0]);
        String signs = null;
        for (String word : words.subList(1, words.size())) {
            if (word.startsWith("\"")) {
                signs = text(word);
                continue;
            }
            List<long[]> longer = new ArrayList<>();
            for (long[] ahead : arguments) {
                for (long choice : choices(word)) {
                    long[] all = Arrays.copyOf(ahead, ahead.length + 1);
                    all[ahead.length] = choice;
                    longer.add(all);
                }
            }
            arguments = longer;
        }
        List<Run.Call> result = new ArrayList<>();
        for (long[] all : arguments) {
            result.add(new Run.Call(words.get(0), signs, all));
        }
        return result;
    }

    // ---- what a line does

    private void compare(String line, long got, long want) {
        due++;
        check.due(line, got, want);
    }

    private void made(String line, Run.Call call, List<Long> answers) {
        long got = run.call(call);
        if (answers != null) {
            compare(line + " [" + call + "]", got, answers.get(0));
        }
    }

    /** The call changes nothing, or (a call that asks) the ROW alone; this run goes on without it. */
    private void stays(String line, Run.Call call, List<Long> answers, boolean rowToo) {
        Run without = run.again();
        Run with = run.again();
        if (call.signs() != null) {
            // Signs were put ahead of the call, and the call empties THE TEXT.
            without.sign(call.signs());
            without.call("end", 0);
        }
        compare(line + " [" + call + "]", with.call(call), answers.get(0));
        List<String> was = without.state(rowToo);
        List<String> is = with.state(rowToo);
        String unlike = "";
        for (int i = 0; i < Math.min(was.size(), is.size()) && unlike.isEmpty(); i++) {
            unlike = was.get(i).equals(is.get(i)) ? "" : is.get(i) + ", was " + was.get(i);
        }
        check.holds(line + " [" + call + "]: nothing changes, but " + unlike, was.equals(is));
    }

    private void repeat(long times, List<String> words, List<Long> answers) {
        Run.Call call = calls(words).get(0);
        for (long time = 0; time < times; time++) {
            made("repeat " + times, call, answers);
        }
    }

    private void until(long calls, List<String> words) {
        Run.Call call = calls(words).get(0);
        while (run.calls() < calls) {
            run.call(call);
        }
    }

    private void row(String line, List<Long> want) {
        compare(line + ": numbers of the ROW", run.call("count", 2), want.size());
        for (int i = 0; i < want.size(); i++) {
            compare(line + ": row " + i, run.call("row", i), want.get(i));
        }
        compare(line + ": behind the ROW", run.call("row", want.size()), Run.THROWN);
    }

    private void place(String line, long k, List<Long> want) {
        for (int index = 0; index < want.size(); index++) {
            compare(line + ": INDEX " + index, run.call("get", k, index), want.get(index));
        }
        compare(line + ": behind it", run.call("get", k, want.size()), -1000);
    }

    // ---- states to begin with

    /** Each kind of state: PLACES that share NODES, one that has NODES twice, an empty one (5), a TEXT, a ROW. */
    private void rich() {
        run.call(new Run.Call("tells", "5,3,8,1,9", 0));
        run.call("front", 0, 7, 1);
        run.call("fills", 7, 4, 2);
        run.call("copies", 2, 3);
        run.call(new Run.Call("tells", "-3,0,2,2,6", 4));
        run.sign("12,34");
        run.call("sum", 4, 1, 5);
    }
}
