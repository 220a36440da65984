/** Counts wrong answers and tells them. */
final class Check {
    private static final int MOST_TOLD = 100;

    private int wrong = 0;
    private String part = "";

    void part(String name) {
        part = name;
    }

    void due(String call, long got, long want) {
        if (got != want) {
            fail(call + " answered " + got + ", due is " + want);
        }
    }

    void holds(String what, boolean got) {
        if (!got) {
            fail("does not hold: " + what);
        }
    }

    private void fail(String what) {
        wrong++;
        if (wrong <= MOST_TOLD) {
            System.out.println(part + ": " + what);
        }
    }

    void finish(String name) {
        System.out.println(name + ": " + (wrong == 0 ? "all answers are as due" : wrong + " answers are not as due"));
        if (wrong != 0) {
            System.exit(1);
        }
    }
}
