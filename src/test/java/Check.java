import java.util.NoSuchElementException;

/** What the tests have in common: counting wrong answers, THE TEXT, the ROW, whole TREES. */
final class Check {
    private static final int MOST_TOLD = 100;

    private int wrong = 0;
    private String part = "";

    void part(String name) {
        part = name;
    }

    void due(String call, long got, long want) {
        if (got != want) {
            wrong++;
            if (wrong > MOST_TOLD) {
                return;
            }
            System.out.println(part + ": " + call + " answered " + got + ", due is " + want);
        }
    }

    void holds(String what, boolean got) {
        due(what, got ? 1 : 0, 1);
    }

    /** The ROW has just these numbers. */
    void row(String call, EvenTrees x, long... want) {
        due(call + ": numbers of the ROW", x.count(2), want.length);
        for (int i = 0; i < want.length; i++) {
            due(call + ": row(" + i + ")", rowOr(x, i, Long.MIN_VALUE), want[i]);
        }
        due(call + ": row behind its end", rowOr(x, want.length, Long.MIN_VALUE), Long.MIN_VALUE);
    }

    static long rowOr(EvenTrees x, int i, long other) {
        try {
            return x.row(i);
        } catch (NoSuchElementException e) {
            return other;
        }
    }

    /** A PLACE has just these NUMBERS by INDEX. */
    void has(String call, EvenTrees x, int place, int... want) {
        for (int i = 0; i < want.length; i++) {
            due(call + ": INDEX " + i + " of PLACE " + place, x.get(place, i), want[i]);
        }
        due(call + ": behind PLACE " + place, x.get(place, want.length), -1000);
    }

    /** Puts signs behind THE TEXT, whatever their number is. */
    static void text(EvenTrees x, String signs) {
        int had = x.count(3);
        for (int i = 0; i < signs.length(); i += 4) {
            int v = 0;
            for (int s = i; s < i + 4; s++) {
                v = v << 8 | (s < signs.length() ? signs.charAt(s) : 0);
            }
            x.sign(v);
        }
        x.end(had + signs.length());
    }

    static int tells(EvenTrees x, int k, String signs) {
        text(x, signs);
        return x.tells(k);
    }

    static int grows(EvenTrees x, int k, String signs) {
        text(x, signs);
        return x.grows(k);
    }

    static String written(EvenTrees x, int i) {
        StringBuilder told = new StringBuilder();
        for (int p = 0; p < x.written(i, -1); p++) {
            told.append((char) x.written(i, p));
        }
        return told.toString();
    }

    /** PLACE k has the NUMBERS from .. from + n - 1. */
    static void rising(EvenTrees x, int k, int from, int n) {
        x.fills(0, 0, k);
        for (int i = 0; i < n; i++) {
            x.back(k, from + i, k);
        }
    }

    void finish(String name) {
        System.out.println(name + ": " + (wrong == 0 ? "all answers are as due" : wrong + " answers are not as due"));
        if (wrong != 0) {
            System.exit(1);
        }
    }
}
