/** The same calls for each SIZE, and each kind of call over and over, with the plain model's answers. */
public final class SweepTest {
    private static final int MOST = 255;
    private static final long ALL_BITS = (1L << 62) - 1;

    public static void main(String[] args) {
        boolean alike = true;
        for (int n = 0; n <= MOST; n++) {
            alike &= asked(n) & made(n);
        }
        for (String call : new Calls(MOST).made) {
            alike &= overAndOver(call);
        }
        System.out.println("SweepTest: " + (alike ? "all answers are as due" : "not all answers are as due"));
        if (!alike) {
            System.exit(1);
        }
    }

    /** Calls about a TREE of SIZE n in PLACE 0 that make one in PLACE 1, as lines. */
    private static final class Calls {
        private final String[] made;

        Calls(int n) {
            int mid = n / 2;
            int end = Math.max(0, n - 1);
            made = new String[] {
                "fills " + n + " 7 1", "copies 0 1", "sides 0 0 1", "sides 0 1 1", "roots 9 2 3 1",
                "sets 0 " + mid + " 999 1", "sets 0 " + end + " -999 1", "front 0 -5 1", "back 0 -5 1",
                "first 0 1", "last 0 1", "adds 0 " + mid + " " + n + " 900 1", "appends 0 2 1", "appends 2 0 1",
                "turned 0 1 1", "turned 0 " + n + " 1", "reverses 0 1", "keeps 0 " + mid + " 1",
                "skips 0 " + mid + " 1", "slips 0 " + mid + " -5 1", "slips 0 " + n + " -5 1",
                "swaps 0 0 " + end + " 1", "zips 0 2 1 1", "parts 0 " + mid + " 1 4", "parts 0 " + mid + " 4 1",
                "sorts 0 1", "merges 0 2 1", "merges 3 0 1", "picks 0 -20 20 1", "mirrors 0 1", "push 0 -999 1",
                "push 0 999 1", "pop 0 1", "heaps 0 1"};
        }
    }

    /** PLACE 0: n NUMBERS, rising by halves and not as a whole; 2 and 3: two that fit to be sides. */
    private static void begin(Both both, int n) {
        both.rising(0, -100, n);
        both.call("turned", 0, n / 3, 0);
        both.call("sides", 0, 0, 2);
        both.call("sides", 0, 1, 3);
    }

    private static void line(Both both, String line) {
        String[] words = line.split(" ");
        long[] arguments = new long[words.length - 1];
        for (int a = 0; a < arguments.length; a++) {
            arguments[a] = Long.parseLong(words[a + 1]);
        }
        both.call(words[0], arguments);
    }

    private static boolean end(Both both, String name) {
        if (!both.alike()) {
            both.tell("SweepTest, " + name);
        }
        return both.alike();
    }

    private static boolean asked(int n) {
        Both both = new Both();
        begin(both, n);
        String[] lines = {"size 0", "path 0 " + (n - 1), "path 0 " + n / 2, "path 0 " + n, "get 0 " + (n - 1),
            "get 0 " + n, "heap 0", "numbers 0 " + n, "numbers 0 " + n / 2, "sum 0 0 " + n, "sum 0 " + n / 3 + " " + n,
            "sum 0 0 " + (n + 1), "finds 0 " + (n - 101), "finds 0 -100", "finds 0 500", "same 0 2", "same 0 3",
            "search 0 " + (n / 2 - 100), "search 0 999", "search 0 -999", "reaches 0 1", "reaches 0 9999",
            "reaches 0 -500", "occurs 0 5", "occurs 0 2", "occurs 0 0", "differs 0 0", "differs 2 3", "written 0 -1",
            "written 0 " + n, "written 0 " + 5 * n, "costs " + n + " 0", "costs " + n + " 1", "costs " + n + " 2",
            "costs " + n + " 3", "costs " + n + " 4", "costs " + n + " 5", "twins 0", "nodes", "own 0", "own 2",
            "ways 0 " + ALL_BITS, "ways 0 1", "ways 0 " + (1L << 61), "ways 0 " + (1L << n % 62)};
        for (String line : lines) {
            line(both, line);
            both.row();
        }
        for (int d = 0; d < 8; d++) {
            both.call("level", 0, d);
            both.row();
        }
        return end(both, "SIZE " + n);
    }

    private static boolean made(int n) {
        boolean alike = true;
        for (String call : new Calls(n).made) {
            Both both = new Both();
            begin(both, n);
            line(both, call);
            both.row();
            both.call("count", 1);
            both.call("same", 0, 1);
            both.row();
            both.call("size", 1);
            both.row();
            both.call("own", 1);
            both.row();
            for (int from = 0; from <= both.sizeFor(1); from += 16) {
                both.call("numbers", 1, from);
                both.row();
            }
            alike &= end(both, "SIZE " + n + ", " + call);
        }
        return alike;
    }

    /** So often that what is made would not find room if what no PLACE has any more kept it. */
    private static boolean overAndOver(String call) {
        Both both = new Both();
        begin(both, MOST);
        line(both, "sets 0 128 0 1");
        int left = both.left() - 20;
        for (int times = 0; times < left; times++) {
            line(both, call);
        }
        both.state();
        return end(both, "over and over, " + call);
    }
}
