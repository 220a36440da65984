import java.util.Arrays;
import java.util.NoSuchElementException;

/**
 * Rows of numbers that never change, kept as even trees in six places. NODES are numbered slots of
 * one pool that is made with the object, so that no call makes an object of its own.
 */
public final class EvenTrees {
    public static final int NONE = -1;

    private static final int EMPTY = 0;
    private static final int PLACES = 6;
    private static final int MOST = 255;
    private static final int DEPTHS = 8;
    private static final int GREATEST = 999;
    private static final int TOLD_AT_ONCE = 16;
    private static final int INDEX_BITS = 62;

    private static final int UNFIT = -2;
    private static final int TOO_LARGE = -3;
    private static final int NO_NUMBER = -1000;
    private static final int MISREAD = -2000;
    private static final int NO_SUM = -1000000;

    private static final int FRONT = 0;
    private static final int BACK = 1;
    private static final int FIRST = 2;
    private static final int LAST = 3;
    private static final int PUSH = 4;
    private static final int STEPS = 5;

    private final Pool pool;
    private final Row told;
    private final Reader reader;
    private final Text text;
    private final Writer writer;
    private final Ways marked;
    private final int[] trees;
    private final int[] sizes;
    private final int[] one;
    private final int[] other;
    private final int[] fresh;
    private final int[] tally;

    public EvenTrees() {
        pool = new Pool();
        told = new Row();
        reader = new Reader();
        text = reader.text;
        writer = new Writer();
        marked = new Ways();
        trees = new int[PLACES];
        sizes = new int[PLACES];
        one = new int[MOST + 1];
        other = new int[MOST + 1];
        fresh = new int[MOST + 1];
        tally = new int[2 * GREATEST + 1];
    }

    // ---- rows that are made

    public int sign(int v) {
        return text.addFour(v);
    }

    public boolean end(int n) {
        return text.cut(n);
    }

    public int tells(int k) {
        int n = reader.readRow(fresh);
        text.cut(0);
        if (n == NONE) {
            return MISREAD - reader.at;
        }
        return isPlace(k) ? build(k, n) : NONE;
    }

    public int grows(int k) {
        boolean read = reader.readTree();
        text.cut(0);
        if (!read) {
            return MISREAD - reader.at;
        }
        if (!isPlace(k)) {
            return NONE;
        }
        int uneven = reader.firstUneven();
        if (uneven != NONE) {
            told.tell(reader.starts[uneven], reader.leftSizes[uneven], reader.rightSizes[uneven]);
            return UNFIT;
        }
        return build(k, reader.numbersByIndex(fresh));
    }

    public int fills(int n, int v, int k) {
        if (n < 0 || n > MOST || !isNumber(v) || !isPlace(k)) {
            return NONE;
        }
        int before = begin();
        keep(k, pool.alike(n, v), n);
        return pool.made - before;
    }

    public int copies(int i, int k) {
        if (!isPlace(i) || !isPlace(k)) {
            return NONE;
        }
        return keep(k, trees[i], sizes[i]);
    }

    public int sides(int i, int side, int k) {
        if (!isPlace(i) || !isPlace(k) || side < 0 || side > 1) {
            return NONE;
        }
        int size = side == 0 ? Shape.leftSize(sizes[i]) : Shape.rightSize(sizes[i]);
        if (size == 0) {
            return UNFIT;
        }
        return keep(k, side == 0 ? pool.leftOf(trees[i]) : pool.rightOf(trees[i]), size);
    }

    public int roots(int v, int i, int j, int k) {
        if (!isNumber(v) || !isPlace(i) || !isPlace(j) || !isPlace(k)) {
            return NONE;
        }
        if (!Shape.isEven(sizes[i], sizes[j])) {
            return UNFIT;
        }
        int size = 1 + sizes[i] + sizes[j];
        if (size > MOST) {
            return TOO_LARGE;
        }
        begin();
        return keep(k, pool.make(v, trees[i], trees[j]), size);
    }

    // ---- both ends, places within

    public int size(int i) {
        if (!isPlace(i)) {
            return NONE;
        }
        int size = sizes[i];
        told.tell(Shape.steps(size), size == 0 ? NONE : Shape.depth(size - 1));
        return size;
    }

    public int get(int i, int index) {
        if (!isIndex(i, index)) {
            return NO_NUMBER;
        }
        return pool.numberAt(trees[i], index);
    }

    public int path(int i, int index) {
        if (!isIndex(i, index)) {
            return NONE;
        }
        told.tell(Shape.depth(index));
        return Shape.wayTo(index);
    }

    public int sets(int i, int index, int v, int k) {
        if (!isIndex(i, index) || !isNumber(v) || !isPlace(k)) {
            return NONE;
        }
        readBoth(i, i);
        one[index] = v;
        markUnlike(sizes[i]);
        return renew(i, k);
    }

    public int front(int i, int v, int k) {
        return putOne(i, v, k, FRONT);
    }

    public int back(int i, int v, int k) {
        return putOne(i, v, k, BACK);
    }

    public int first(int i, int k) {
        if (!isPlace(i) || !isPlace(k)) {
            return NONE;
        }
        return sizes[i] == 0 ? UNFIT : takeOne(i, 0, k, FIRST);
    }

    public int last(int i, int k) {
        if (!isPlace(i) || !isPlace(k)) {
            return NONE;
        }
        return sizes[i] == 0 ? UNFIT : takeOne(i, sizes[i] - 1, k, LAST);
    }

    public int adds(int i, int l, int r, int v, int k) {
        if (!isRange(i, l, r) || v < -GREATEST || v > GREATEST || !isPlace(k)) {
            return NONE;
        }
        marked.clear();
        pool.read(trees[i], sizes[i], one);
        // A NUMBER at the edge stays the same and its NODE is made anew all the same.
        for (int x = l; x < r && v != 0; x++) {
            one[x] = held(one[x] + v);
            marked.mark(x);
        }
        return renew(i, k);
    }

    // ---- rows together

    public int appends(int i, int j, int k) {
        if (!isPlace(i) || !isPlace(j) || !isPlace(k)) {
            return NONE;
        }
        int size = sizes[i] + sizes[j];
        if (size > MOST) {
            return UNFIT;
        }
        int before = begin();
        pool.read(trees[j], sizes[j], other);
        keep(k, pool.putAll(trees[i], sizes[i], other, sizes[j], BACK), size);
        return pool.made - before;
    }

    public int turned(int i, int n, int k) {
        if (!isPlace(i) || !isPlace(k) || n < 0 || n > MOST) {
            return NONE;
        }
        int size = sizes[i];
        if (size == 0) {
            return UNFIT;
        }
        int before = begin();
        int tree = trees[i];
        for (int turn = 0; turn < n; turn++) {
            int ahead = pool.numberOf(tree);
            tree = pool.put(ahead, pool.take(tree, size, FIRST), size - 1, BACK);
        }
        keep(k, tree, size);
        return pool.made - before;
    }

    public int reverses(int i, int k) {
        if (!isPlace(i) || !isPlace(k)) {
            return NONE;
        }
        int size = sizes[i];
        pool.read(trees[i], size, one);
        for (int x = 0; x < size; x++) {
            fresh[x] = one[size - 1 - x];
        }
        return build(k, size);
    }

    public int keeps(int i, int n, int k) {
        if (!isRange(i, 0, n) || !isPlace(k)) {
            return NONE;
        }
        int before = begin();
        keep(k, pool.takeMany(trees[i], sizes[i], sizes[i] - n, LAST), n);
        return pool.made - before;
    }

    public int skips(int i, int n, int k) {
        if (!isRange(i, 0, n) || !isPlace(k)) {
            return NONE;
        }
        int before = begin();
        keep(k, pool.takeMany(trees[i], sizes[i], n, FIRST), sizes[i] - n);
        return pool.made - before;
    }

    public int slips(int i, int index, int v, int k) {
        if (!isRange(i, 0, index) || !isNumber(v) || !isPlace(k)) {
            return NONE;
        }
        int size = sizes[i];
        if (size == MOST) {
            return UNFIT;
        }
        pool.read(trees[i], size, one);
        for (int x = 0; x < size; x++) {
            fresh[x < index ? x : x + 1] = one[x];
        }
        fresh[index] = v;
        return build(k, size + 1);
    }

    public int swaps(int i, int one, int other, int k) {
        if (!isIndex(i, one) || !isIndex(i, other) || !isPlace(k)) {
            return NONE;
        }
        readBoth(i, i);
        int number = this.one[one];
        this.one[one] = this.one[other];
        this.one[other] = number;
        markUnlike(sizes[i]);
        return renew(i, k);
    }

    public int zips(int i, int j, int what, int k) {
        if (!isPlace(i) || !isPlace(j) || what < 0 || what > 3 || !isPlace(k)) {
            return NONE;
        }
        readBoth(i, j);
        int size = Math.min(sizes[i], sizes[j]);
        for (int x = 0; x < size; x++) {
            fresh[x] = joined(one[x], other[x], what);
        }
        return build(k, size);
    }

    public int parts(int i, int n, int k, int l) {
        if (!isRange(i, 0, n) || !isPlace(k) || !isPlace(l)) {
            return NONE;
        }
        if (k == l) {
            return UNFIT;
        }
        int tree = trees[i];
        int size = sizes[i];
        int before = begin();
        keep(k, pool.takeMany(tree, size, size - n, LAST), n);
        keep(l, pool.takeMany(tree, size, n, FIRST), size - n);
        return pool.made - before;
    }

    public int sorts(int i, int k) {
        if (!isPlace(i) || !isPlace(k)) {
            return NONE;
        }
        int size = sizes[i];
        pool.read(trees[i], size, one);
        sortInto(size);
        int moved = 0;
        for (int x = 0; x < size; x++) {
            moved += fresh[x] != one[x] ? 1 : 0;
        }
        told.tell(moved);
        return build(k, size);
    }

    public int merges(int i, int j, int k) {
        if (!isPlace(i) || !isPlace(j) || !isPlace(k)) {
            return NONE;
        }
        int size = sizes[i] + sizes[j];
        if (size > MOST) {
            return UNFIT;
        }
        readBoth(i, j);
        int x = 0;
        int y = 0;
        for (int z = 0; z < size; z++) {
            if (y >= sizes[j] || x < sizes[i] && one[x] <= other[y]) {
                fresh[z] = one[x];
                x++;
            } else {
                fresh[z] = other[y];
                y++;
            }
        }
        return build(k, size);
    }

    public int picks(int i, int l, int r, int k) {
        if (!isPlace(i) || !isNumber(l) || !isNumber(r) || !isPlace(k)) {
            return NONE;
        }
        pool.read(trees[i], sizes[i], one);
        int n = 0;
        for (int x = 0; x < sizes[i]; x++) {
            if (one[x] >= l && one[x] <= r) {
                fresh[n] = one[x];
                n++;
            }
        }
        return build(k, n);
    }

    public int mirrors(int i, int k) {
        if (!isPlace(i) || !isPlace(k)) {
            return NONE;
        }
        // Both sides of each NODE have as many as one another just when the SIZE is 2^d - 1.
        if ((sizes[i] & (sizes[i] + 1)) != 0) {
            return UNFIT;
        }
        begin();
        return keep(k, pool.mirrored(trees[i], sizes[i]), sizes[i]);
    }

    // ---- heaps

    public int heap(int i) {
        if (!isPlace(i)) {
            return NONE;
        }
        pool.read(trees[i], sizes[i], one);
        int less = NONE;
        for (int x = 1; x < sizes[i] && less == NONE; x++) {
            if (one[x] < one[Shape.above(x)]) {
                less = x;
            }
        }
        told.tell(less);
        return less == NONE ? 1 : 0;
    }

    public int push(int i, int v, int k) {
        return putOne(i, v, k, PUSH);
    }

    public int pop(int i, int k) {
        if (!isPlace(i) || !isPlace(k)) {
            return NONE;
        }
        int size = sizes[i];
        if (size == 0) {
            return UNFIT;
        }
        told.tell(pool.numberOf(trees[i]));
        int before = begin();
        keep(k, pool.popped(trees[i], size), size - 1);
        return pool.made - before;
    }

    public int heaps(int i, int k) {
        if (!isPlace(i) || !isPlace(k)) {
            return NONE;
        }
        int before = begin();
        pool.read(trees[i], sizes[i], one);
        keep(k, pool.putAll(EMPTY, 0, one, sizes[i], PUSH), sizes[i]);
        return pool.made - before;
    }

    // ---- what is asked

    public int numbers(int i, int from) {
        if (!isRange(i, 0, from)) {
            return NONE;
        }
        pool.read(trees[i], sizes[i], one);
        int n = Math.min(TOLD_AT_ONCE, sizes[i] - from);
        told.clear();
        for (int x = from; x < from + n; x++) {
            told.add(one[x]);
        }
        return n;
    }

    public int sum(int i, int l, int r) {
        if (!isRange(i, l, r)) {
            return NO_SUM;
        }
        pool.read(trees[i], sizes[i], one);
        told.clear();
        if (l == r) {
            return 0;
        }
        int least = l;
        int greatest = l;
        int sum = 0;
        for (int x = l; x < r; x++) {
            sum += one[x];
            least = one[x] < one[least] ? x : least;
            greatest = one[x] > one[greatest] ? x : greatest;
        }
        told.tell(one[least], one[greatest]);
        told.add(least);
        told.add(greatest);
        return sum;
    }

    public int finds(int i, int v) {
        if (!isPlace(i) || !isNumber(v)) {
            return NONE;
        }
        pool.read(trees[i], sizes[i], one);
        int found = 0;
        int nearest = NONE;
        int farthest = NONE;
        for (int x = 0; x < sizes[i]; x++) {
            if (one[x] == v) {
                nearest = found == 0 ? x : nearest;
                farthest = x;
                found++;
            }
        }
        if (found == 0) {
            return UNFIT;
        }
        told.tell(found, farthest);
        return nearest;
    }

    public int same(int i, int j) {
        if (!isPlace(i) || !isPlace(j)) {
            return NONE;
        }
        readBoth(i, j);
        int shorter = Math.min(sizes[i], sizes[j]);
        int x = 0;
        while (x < shorter && one[x] == other[x]) {
            x++;
        }
        boolean alike = x == sizes[i] && x == sizes[j];
        told.tell(alike ? NONE : x, nodesInBoth(i, j));
        return alike ? 1 : 0;
    }

    public int search(int i, int v) {
        if (!isPlace(i) || !isNumber(v)) {
            return NONE;
        }
        pool.read(trees[i], sizes[i], one);
        int low = 0;
        int high = sizes[i];
        int looks = 0;
        while (low < high) {
            int mid = (low + high) / 2;
            looks++;
            if (one[mid] < v) {
                low = mid + 1;
            } else {
                high = mid;
            }
        }
        told.tell(looks, low < sizes[i] && one[low] == v ? 1 : 0);
        return low;
    }

    public int reaches(int i, int v) {
        if (!isPlace(i)) {
            return NONE;
        }
        pool.read(trees[i], sizes[i], one);
        int together = 0;
        int n = 0;
        while (n < sizes[i] && together < v) {
            together += one[n];
            n++;
        }
        if (together < v) {
            return UNFIT;
        }
        told.tell(together);
        return n;
    }

    public int occurs(int i, int j) {
        if (!isPlace(i) || !isPlace(j)) {
            return NONE;
        }
        readBoth(i, j);
        int found = 0;
        int nearest = NONE;
        int farthest = NONE;
        for (int x = 0; x + sizes[j] <= sizes[i]; x++) {
            if (standsAt(x, sizes[j])) {
                nearest = found == 0 ? x : nearest;
                farthest = x;
                found++;
            }
        }
        told.tell(nearest, farthest);
        return found;
    }

    public int differs(int i, int j) {
        if (!isPlace(i) || !isPlace(j)) {
            return NONE;
        }
        if (sizes[i] != sizes[j]) {
            return UNFIT;
        }
        readBoth(i, j);
        told.tell(markUnlike(sizes[i]));
        return marked.total;
    }

    public int written(int i, int p) {
        if (!isPlace(i) || p < NONE) {
            return NONE;
        }
        pool.read(trees[i], sizes[i], one);
        writer.begin(p);
        Writer.writeTree(writer, one, sizes[i], 0, 1);
        return p == NONE ? writer.signs : writer.found;
    }

    public int costs(int n, int what) {
        if (n < 0 || n > MOST || what < FRONT || what > STEPS) {
            return NONE;
        }
        boolean takes = what == FIRST || what == LAST;
        boolean puts = what == FRONT || what == BACK || what == PUSH;
        if (takes && n == 0 || puts && n == MOST) {
            return UNFIT;
        }
        return Shape.cost(n, what);
    }

    public int twins(int i) {
        if (!isPlace(i)) {
            return NONE;
        }
        pool.forget();
        pool.spread(trees[i], sizes[i]);
        int unlike = 0;
        int twice = 0;
        int most = 0;
        for (int x = 0; x < sizes[i]; x++) {
            int times = pool.countAt(x);
            unlike += times == 1 ? 1 : 0;
            twice += times == 2 ? 1 : 0;
            most = Math.max(most, times);
        }
        told.tell(most, sizes[i] - unlike);
        return twice;
    }

    public int nodes() {
        pool.forget();
        int unlike = 0;
        int shared = 0;
        int all = 0;
        for (int p = 0; p < PLACES; p++) {
            pool.spread(trees[p], sizes[p]);
            for (int x = 0; x < sizes[p]; x++) {
                int seen = pool.seeAt(x, 1 << p);
                unlike += seen == 0 ? 1 : 0;
                shared += (seen & 1 << p) == 0 && Integer.bitCount(seen) == 1 ? 1 : 0;
            }
            all += sizes[p];
        }
        told.tell(shared, all);
        return unlike;
    }

    public int own(int i) {
        if (!isPlace(i)) {
            return NONE;
        }
        pool.forget();
        for (int p = 0; p < PLACES; p++) {
            if (p != i) {
                seeAll(p, 1);
            }
        }
        pool.spread(trees[i], sizes[i]);
        int unlike = 0;
        int alone = 0;
        for (int x = 0; x < sizes[i]; x++) {
            int seen = pool.seeAt(x, 2);
            unlike += (seen & 2) == 0 ? 1 : 0;
            alone += seen == 0 ? 1 : 0;
        }
        told.tell(alone);
        return unlike;
    }

    public int level(int i, int d) {
        if (!isPlace(i) || d < 0 || d >= DEPTHS) {
            return NONE;
        }
        pool.read(trees[i], sizes[i], one);
        int n = 0;
        int sum = 0;
        for (int x = (1 << d) - 1; x < sizes[i] && x < (2 << d) - 1; x++) {
            sum += one[x];
            n++;
        }
        told.tell(sum);
        return n;
    }

    public int ways(int i, long indexes) {
        if (!isPlace(i) || indexes >>> INDEX_BITS != 0) {
            return NONE;
        }
        marked.clear();
        for (int x = 0; x < INDEX_BITS && x < sizes[i]; x++) {
            if ((indexes >>> x & 1) == 1) {
                marked.mark(x);
            }
        }
        return marked.total;
    }

    public int count(int what) {
        switch (what) {
            case 0:
                return placesInUse();
            case 1:
                return pool.made;
            case 2:
                return told.many;
            case 3:
                return text.many;
            case 4:
                return 1;
            default:
                return NONE;
        }
    }

    public long row(int i) throws NoSuchElementException {
        if (i < 0 || i >= told.many) {
            throw new NoSuchElementException("no such number in the row");
        }
        return told.numbers[i];
    }

    // ---- what the calls have in common

    private static boolean isPlace(int i) {
        return i >= 0 && i < PLACES;
    }

    private static boolean isNumber(int v) {
        return v >= -GREATEST && v <= GREATEST;
    }

    private boolean isIndex(int i, int index) {
        return isPlace(i) && index >= 0 && index < sizes[i];
    }

    private boolean isRange(int i, int l, int r) {
        return isPlace(i) && l >= 0 && r >= l && r <= sizes[i];
    }

    private static int held(int number) {
        return Math.max(-GREATEST, Math.min(GREATEST, number));
    }

    /** Sees to room for all that one call can make; how many NODES are MADE so far. */
    private int begin() {
        if (!pool.hasRoom()) {
            pool.forgetKept();
            for (int p = 0; p < PLACES; p++) {
                pool.keepAll(trees[p], sizes[p]);
            }
        }
        return pool.made;
    }

    private int keep(int k, int tree, int size) {
        trees[k] = tree;
        sizes[k] = size;
        return size;
    }

    /** PLACE k has what is BUILT of the first n of the fresh NUMBERS. */
    private int build(int k, int n) {
        begin();
        return keep(k, pool.built(fresh, n), n);
    }

    private void readBoth(int i, int j) {
        pool.read(trees[i], sizes[i], one);
        pool.read(trees[j], sizes[j], other);
    }

    private int putOne(int i, int v, int k, int how) {
        if (!isPlace(i) || !isNumber(v) || !isPlace(k)) {
            return NONE;
        }
        if (sizes[i] == MOST) {
            return UNFIT;
        }
        int before = begin();
        keep(k, pool.put(v, trees[i], sizes[i], how), sizes[i] + 1);
        return pool.made - before;
    }

    private int takeOne(int i, int index, int k, int how) {
        told.tell(pool.numberAt(trees[i], index));
        int before = begin();
        keep(k, pool.take(trees[i], sizes[i], how), sizes[i] - 1);
        return pool.made - before;
    }

    /** PLACE k has that of i CHANGED to the one row on the marked ways. */
    private int renew(int i, int k) {
        int before = begin();
        keep(k, pool.changed(trees[i], sizes[i], marked, one), sizes[i]);
        return pool.made - before;
    }

    /** Marks where the one row is unlike the other: at how many INDEXES. */
    private int markUnlike(int size) {
        marked.clear();
        int unlike = 0;
        for (int x = 0; x < size; x++) {
            if (one[x] != other[x]) {
                marked.mark(x);
                unlike++;
            }
        }
        return unlike;
    }

    private static int joined(int a, int b, int what) {
        switch (what) {
            case 0:
                return held(a + b);
            case 1:
                return held(a - b);
            case 2:
                return Math.min(a, b);
            default:
                return Math.max(a, b);
        }
    }

    /** The fresh row has the NUMBERS of the one row, rising. */
    private void sortInto(int size) {
        Arrays.fill(tally, 0);
        for (int x = 0; x < size; x++) {
            tally[one[x] + GREATEST]++;
        }
        int n = 0;
        for (int t = 0; t < tally.length; t++) {
            for (int left = tally[t]; left > 0; left--) {
                fresh[n] = t - GREATEST;
                n++;
            }
        }
    }

    private boolean standsAt(int x, int size) {
        int y = 0;
        while (y < size && one[x + y] == other[y]) {
            y++;
        }
        return y == size;
    }

    private void seeAll(int i, int bit) {
        pool.spread(trees[i], sizes[i]);
        for (int x = 0; x < sizes[i]; x++) {
            pool.seeAt(x, bit);
        }
    }

    private int nodesInBoth(int i, int j) {
        pool.forget();
        seeAll(i, 1);
        pool.spread(trees[j], sizes[j]);
        int both = 0;
        for (int x = 0; x < sizes[j]; x++) {
            both += pool.seeAt(x, 2) == 1 ? 1 : 0;
        }
        return both;
    }

    private int placesInUse() {
        int bits = 0;
        for (int p = 0; p < PLACES; p++) {
            bits |= sizes[p] > 0 ? 1 << p : 0;
        }
        return bits;
    }

    /** What follows from SIZES and INDEXES alone: EVEN TREES of one SIZE have one shape. */
    private static final class Shape {
        static int leftSize(int size) {
            return size / 2;
        }

        static int rightSize(int size) {
            return size < 2 ? 0 : (size - 1) / 2;
        }

        static boolean isEven(int left, int right) {
            return left == right || left == right + 1;
        }

        /** 2^DEPTH of an INDEX: its LEFT is that much further on, its RIGHT twice as much. */
        static int stride(int index) {
            int bits = index + 1;
            bits |= bits >> 1;
            bits |= bits >> 2;
            bits |= bits >> 4;
            bits |= bits >> 8;
            return bits - (bits >> 1);
        }

        static int depth(int index) {
            return Integer.bitCount(stride(index) - 1);
        }

        /** INDEX of the NODE above, NONE of the root. */
        static int above(int index) {
            if (index <= 0) {
                return NONE;
            }
            int half = stride(index) / 2;
            return half + (index + 1 & half - 1) - 1;
        }

        static int wayTo(int index) {
            int way = 0;
            for (int rest = index; rest > 0; rest = (rest - 1) / 2) {
                way = 2 * way + (rest % 2 == 0 ? 1 : 0);
            }
            return way;
        }

        static int cost(int size, int what) {
            switch (what) {
                case FRONT:
                case PUSH:
                    return costAhead(size);
                case BACK:
                    return depth(size) + 1;
                case FIRST:
                    return costFirst(size);
                case LAST:
                    return depth(size - 1);
                default:
                    return steps(size);
            }
        }

        private static int costAhead(int size) {
            int cost = 1;
            for (int rest = size; rest > 0; rest = (rest - 1) / 2) {
                cost++;
            }
            return cost;
        }

        private static int costFirst(int size) {
            int cost = 0;
            for (int rest = size; rest > 1; rest = rest / 2) {
                cost++;
            }
            return cost;
        }

        static int steps(int size) {
            int steps = 1;
            for (int rest = size; rest > 0; rest = (rest - 1) / 2) {
                steps += 1 + stepsOfMore(leftSize(rest), rightSize(rest));
            }
            return steps;
        }

        private static int stepsOfMore(int size, int m) {
            int steps = 1;
            int rest = size;
            for (int less = m; rest > 0 && less > 0; less = (less - 1) / 2) {
                rest = less % 2 == 1 ? leftSize(rest) : rightSize(rest);
                steps++;
            }
            return steps;
        }
    }

    /** INDEXES that are to be CHANGED, with all that lie on the ways to them. */
    private static final class Ways {
        private final int[] on = new int[MOST];
        private int total = 0;

        void clear() {
            Arrays.fill(on, 0);
            total = 0;
        }

        void mark(int index) {
            int x = index;
            for (int d = 0; d < DEPTHS && x >= 0 && x < MOST && on[x] == 0; d++) {
                on[x] = 1;
                total++;
                x = Shape.above(x);
            }
        }

        boolean has(int index) {
            return index >= 0 && index < MOST && on[index] != 0;
        }
    }

    /** The ROW. */
    private static final class Row {
        private final long[] numbers = new long[TOLD_AT_ONCE];
        private int many = 0;

        void clear() {
            many = 0;
        }

        void add(long number) {
            if (many < numbers.length) {
                numbers[many] = number;
                many++;
            }
        }

        void tell(long a) {
            clear();
            add(a);
        }

        void tell(long a, long b) {
            tell(a);
            add(b);
        }

        void tell(long a, long b, long c) {
            tell(a, b);
            add(c);
        }
    }

    /**
     * All NODES. A slot is used again when no PLACE had its NODE at the last look; looks come only
     * between calls, so that what a call is at work on is never lost.
     */
    private static final class Pool {
        // What six PLACES can hold, and what the dearest call, turned(), can make: 255 times 7 and 8.
        private static final int ROOM = 6144;
        private static final int ONE_CALL = 4096;
        private static final int SEEN_AT_MOST = 256;

        private final int[] numbers = new int[ROOM];
        private final int[] lefts = new int[ROOM];
        private final int[] rights = new int[ROOM];
        private final int[] kept = new int[ROOM];
        private final int[] seen = new int[ROOM];
        private final int[] at = new int[MOST + 1];
        private int next = 1;
        private int free = ROOM - 1;
        private int made = 0;
        private int base = 0;

        boolean hasRoom() {
            return free >= ONE_CALL;
        }

        void forgetKept() {
            Arrays.fill(kept, 0);
            kept[EMPTY] = 1;
            free = ROOM - 1;
            next = 1;
        }

        void keepAll(int tree, int size) {
            spread(tree, size);
            for (int x = 0; x < size; x++) {
                if (isNode(at[x]) && kept[at[x]] == 0) {
                    kept[at[x]] = 1;
                    free--;
                }
            }
        }

        int make(int number, int left, int right) {
            while (next < ROOM && kept[next] != 0) {
                next++;
            }
            if (next >= ROOM) {
                return EMPTY;
            }
            int node = next;
            numbers[node] = number;
            lefts[node] = left;
            rights[node] = right;
            next++;
            free--;
            made++;
            return node;
        }

        private static boolean isNode(int node) {
            return node > EMPTY && node < ROOM;
        }

        int numberOf(int node) {
            return isNode(node) ? numbers[node] : 0;
        }

        int leftOf(int node) {
            return isNode(node) ? lefts[node] : EMPTY;
        }

        int rightOf(int node) {
            return isNode(node) ? rights[node] : EMPTY;
        }

        // ---- TREES by INDEX

        int numberAt(int tree, int index) {
            int node = tree;
            for (int rest = index; rest > 0; rest = (rest - 1) / 2) {
                node = rest % 2 == 1 ? leftOf(node) : rightOf(node);
            }
            return numberOf(node);
        }

        /** Row at has the NODES of a TREE by INDEX. */
        void spread(int tree, int size) {
            at[0] = tree;
            for (int x = 0; x < size; x++) {
                int stride = Shape.stride(x);
                if (x + stride < size) {
                    at[x + stride] = leftOf(at[x]);
                }
                if (x + 2 * stride < size) {
                    at[x + 2 * stride] = rightOf(at[x]);
                }
            }
        }

        void read(int tree, int size, int[] row) {
            spread(tree, size);
            for (int x = 0; x < size; x++) {
                row[x] = numberOf(at[x]);
            }
        }

        /** What row at has so many strides behind an INDEX: 1 its LEFT, 2 its RIGHT. */
        private int below(int index, int strides, int size) {
            int x = index + strides * Shape.stride(index);
            return x < size ? at[x] : EMPTY;
        }

        private int rootOf(int size) {
            return size > 0 ? at[0] : EMPTY;
        }

        int built(int[] row, int size) {
            // Sides stand at greater INDEXES, so from the last one on they are made ahead.
            for (int x = size - 1; x >= 0; x--) {
                at[x] = make(row[x], below(x, 1, size), below(x, 2, size));
            }
            return rootOf(size);
        }

        int changed(int tree, int size, Ways ways, int[] row) {
            spread(tree, size);
            for (int x = size - 1; x >= 0; x--) {
                if (ways.has(x)) {
                    at[x] = make(row[x], below(x, 1, size), below(x, 2, size));
                }
            }
            return rootOf(size);
        }

        int mirrored(int tree, int size) {
            spread(tree, size);
            for (int x = size - 1; x >= 0; x--) {
                at[x] = make(numberOf(at[x]), below(x, 2, size), below(x, 1, size));
            }
            return rootOf(size);
        }

        /** The first of MANY of n, which is made from MANY of 0 on: (n + 1) by 2^d, less 1. */
        int alike(int n, int v) {
            int less = EMPTY;
            int more = make(v, EMPTY, EMPTY);
            for (int d = Shape.depth(n) - 1; d >= 0; d--) {
                boolean odd = (n + 1 >> d) % 2 == 0;
                int a = odd ? make(v, less, less) : make(v, more, less);
                more = odd ? make(v, more, less) : make(v, more, more);
                less = a;
            }
            return less;
        }

        // ---- which NODES were seen

        /** What was seen counts from a new base on, so that all that is below it is forgotten. */
        void forget() {
            base += SEEN_AT_MOST;
        }

        /** Puts a bit to the NODE that row at has: its bits ahead of that. */
        int seeAt(int x, int bit) {
            int node = at[x];
            if (!isNode(node)) {
                return 0;
            }
            int before = seenOf(node);
            seen[node] = base + (before | bit);
            return before;
        }

        /** How often the NODE that row at has was counted, this time too. */
        int countAt(int x) {
            int node = at[x];
            if (!isNode(node)) {
                return 0;
            }
            int times = seenOf(node) + 1;
            seen[node] = base + times;
            return times;
        }

        private int seenOf(int node) {
            return Math.max(0, seen[node] - base);
        }

        // ---- both ends, heaps

        int put(int v, int tree, int size, int how) {
            switch (how) {
                case FRONT:
                    return fronted(this, v, tree, size);
                case BACK:
                    return backed(this, v, tree, size);
                default:
                    return pushed(this, v, tree, size);
            }
        }

        int putAll(int tree, int size, int[] row, int n, int how) {
            int result = tree;
            for (int x = 0; x < n; x++) {
                result = put(row[x], result, size + x, how);
            }
            return result;
        }

        int take(int tree, int size, int how) {
            return how == FIRST ? firstGone(this, tree, size) : lastGone(this, tree, size);
        }

        int takeMany(int tree, int size, int n, int how) {
            int result = tree;
            for (int gone = 0; gone < n; gone++) {
                result = take(result, size - gone, how);
            }
            return result;
        }

        int popped(int tree, int size) {
            if (size <= 1) {
                return EMPTY;
            }
            int left = leftOf(tree);
            int w = farLeft(left);
            int without = farLeftGone(this, left, Shape.leftSize(size));
            return sifted(this, w, rightOf(tree), without, DEPTHS);
        }

        private int farLeft(int tree) {
            int node = tree;
            for (int d = 0; d < DEPTHS && leftOf(node) != EMPTY; d++) {
                node = leftOf(node);
            }
            return numberOf(node);
        }

        // In these each call goes on with a side, of half the size: eight calls at most stand open.

        private static int fronted(Pool pool, int v, int tree, int size) {
            if (size <= 0) {
                return pool.make(v, EMPTY, EMPTY);
            }
            int moved = fronted(pool, pool.numberOf(tree), pool.rightOf(tree), Shape.rightSize(size));
            return pool.make(v, moved, pool.leftOf(tree));
        }

        private static int backed(Pool pool, int v, int tree, int size) {
            if (size <= 0) {
                return pool.make(v, EMPTY, EMPTY);
            }
            int left = pool.leftOf(tree);
            int right = pool.rightOf(tree);
            if (size % 2 == 1) {
                left = backed(pool, v, left, Shape.leftSize(size));
            } else {
                right = backed(pool, v, right, Shape.rightSize(size));
            }
            return pool.make(pool.numberOf(tree), left, right);
        }

        private static int firstGone(Pool pool, int tree, int size) {
            if (size <= 1) {
                return EMPTY;
            }
            int left = pool.leftOf(tree);
            int shorter = firstGone(pool, left, Shape.leftSize(size));
            return pool.make(pool.numberOf(left), pool.rightOf(tree), shorter);
        }

        private static int lastGone(Pool pool, int tree, int size) {
            if (size <= 1) {
                return EMPTY;
            }
            int left = pool.leftOf(tree);
            int right = pool.rightOf(tree);
            if (size % 2 == 0) {
                left = lastGone(pool, left, Shape.leftSize(size));
            } else {
                right = lastGone(pool, right, Shape.rightSize(size));
            }
            return pool.make(pool.numberOf(tree), left, right);
        }

        private static int pushed(Pool pool, int v, int tree, int size) {
            if (size <= 0) {
                return pool.make(v, EMPTY, EMPTY);
            }
            int root = pool.numberOf(tree);
            int moved = pushed(pool, Math.max(v, root), pool.rightOf(tree), Shape.rightSize(size));
            return pool.make(Math.min(v, root), moved, pool.leftOf(tree));
        }

        private static int farLeftGone(Pool pool, int tree, int size) {
            if (size <= 1) {
                return EMPTY;
            }
            int shorter = farLeftGone(pool, pool.leftOf(tree), Shape.leftSize(size));
            return pool.make(pool.numberOf(tree), pool.rightOf(tree), shorter);
        }

        private static int sifted(Pool pool, int w, int a, int b, int depths) {
            boolean aboveA = a == EMPTY || w <= pool.numberOf(a);
            boolean aboveB = b == EMPTY || w <= pool.numberOf(b);
            if (depths <= 0 || a == EMPTY || aboveA && aboveB) {
                return pool.make(w, a, b);
            }
            if (b == EMPTY || pool.numberOf(a) <= pool.numberOf(b)) {
                int lower = sifted(pool, w, pool.leftOf(a), pool.rightOf(a), depths - 1);
                return pool.make(pool.numberOf(a), lower, b);
            }
            int lower = sifted(pool, w, pool.leftOf(b), pool.rightOf(b), depths - 1);
            return pool.make(pool.numberOf(b), a, lower);
        }
    }

    /** THE TEXT. */
    private static final class Text {
        private static final int LONGEST = 200;

        private final int[] signs = new int[LONGEST];
        private int many = 0;

        int addFour(int v) {
            if (many > LONGEST - 4) {
                return NONE;
            }
            for (int shift = 24; shift >= 0; shift -= 8) {
                signs[many] = v >>> shift & 255;
                many++;
            }
            return many;
        }

        boolean cut(int n) {
            if (n < 0 || n > many) {
                return false;
            }
            many = n;
            return true;
        }

        int signAt(int p) {
            return p >= 0 && p < many ? signs[p] : NONE;
        }
    }

    /**
     * Has THE TEXT, and reads it sign by sign. When a reading fails, at is the place of the sign that
     * can't stand there. The NODES of a TREE are kept in the order of their (, with a chain of those
     * still open instead of calls within calls, as a TREE that is not EVEN may be as deep as THE TEXT
     * is long.
     */
    private static final class Reader {
        private static final int NODES = Text.LONGEST / 2;

        private final Text text = new Text();
        private final int[] starts = new int[NODES];
        private final int[] values = new int[NODES];
        private final int[] parents = new int[NODES];
        private final int[] sidesOfParents = new int[NODES];
        private final int[] sidesRead = new int[NODES];
        private final int[] leftSizes = new int[NODES];
        private final int[] rightSizes = new int[NODES];
        private final int[] indexes = new int[NODES];
        private int at = 0;
        private int number = 0;
        private int many = 0;
        private int open = NONE;
        private boolean whole = false;

        /** How many NUMBERS the row has, NONE when the reading fails. */
        int readRow(int[] row) {
            at = 0;
            int n = 0;
            while (at < text.many && n < row.length) {
                if (!readNumber()) {
                    return NONE;
                }
                row[n] = number;
                n++;
                if (at == text.many) {
                    return n;
                }
                if (text.signAt(at) != ',') {
                    return NONE;
                }
                at++;
            }
            // A text that is not empty comes here only behind a comma, with a NUMBER missing.
            return n == 0 ? 0 : NONE;
        }

        private boolean readNumber() {
            boolean negative = text.signAt(at) == '-';
            if (negative) {
                at++;
            }
            int digits = 0;
            int value = 0;
            while (digits < 3 && isDigit(text.signAt(at))) {
                value = 10 * value + text.signAt(at) - '0';
                digits++;
                at++;
            }
            number = negative ? -value : value;
            return digits > 0;
        }

        private static boolean isDigit(int sign) {
            return sign >= '0' && sign <= '9';
        }

        boolean readTree() {
            at = 0;
            many = 0;
            open = NONE;
            whole = false;
            // Each round takes one sign at least, or fails.
            for (int round = 0; round <= Text.LONGEST && !whole; round++) {
                if (!readPart()) {
                    return false;
                }
            }
            return whole && at == text.many;
        }

        private boolean readPart() {
            int sign = text.signAt(at);
            if (open != NONE && sidesRead[open] == 2) {
                return sign == ')' && close();
            }
            if (sign == '.') {
                at++;
                settle(0);
                return true;
            }
            return sign == '(' && openNode();
        }

        private boolean openNode() {
            int start = at;
            at++;
            if (!readNumber() || many >= NODES) {
                return false;
            }
            starts[many] = start;
            values[many] = number;
            parents[many] = open;
            sidesOfParents[many] = open == NONE ? 0 : sidesRead[open];
            sidesRead[many] = 0;
            open = many;
            many++;
            return true;
        }

        private boolean close() {
            at++;
            int size = 1 + leftSizes[open] + rightSizes[open];
            open = parents[open];
            settle(size);
            return true;
        }

        /** A TREE of that size is read: the next side of the open NODE, or the whole. */
        private void settle(int size) {
            if (open == NONE) {
                whole = true;
                return;
            }
            if (sidesRead[open] == 0) {
                leftSizes[open] = size;
            } else {
                rightSizes[open] = size;
            }
            sidesRead[open]++;
        }

        int firstUneven() {
            for (int m = 0; m < many; m++) {
                if (!Shape.isEven(leftSizes[m], rightSizes[m])) {
                    return m;
                }
            }
            return NONE;
        }

        /** The NUMBERS of an EVEN TREE that was read, by INDEX: how many. */
        int numbersByIndex(int[] row) {
            for (int m = 0; m < many; m++) {
                int parent = parents[m];
                int index = 0;
                if (parent >= 0 && parent < m) {
                    index = indexes[parent] + (1 + sidesOfParents[m]) * Shape.stride(indexes[parent]);
                }
                indexes[m] = index;
                if (index >= 0 && index < row.length) {
                    row[index] = values[m];
                }
            }
            return many;
        }
    }

    /** Tells a TREE as a text of which only one sign and the length are kept. */
    private static final class Writer {
        private int wanted = NONE;
        private int found = NONE;
        private int signs = 0;

        void begin(int p) {
            wanted = p;
            found = NONE;
            signs = 0;
        }

        private void put(int sign) {
            if (signs == wanted) {
                found = sign;
            }
            signs++;
        }

        private void putNumber(int number) {
            if (number < 0) {
                put('-');
            }
            int value = Math.abs(number);
            if (value > 99) {
                put('0' + value / 100);
            }
            if (value > 9) {
                put('0' + value / 10 % 10);
            }
            put('0' + value % 10);
        }

        /** The stride doubles with each side, so the INDEX is soon beyond a size of 255. */
        private static void writeTree(Writer writer, int[] row, int size, int index, int stride) {
            if (index >= size || index >= row.length) {
                writer.put('.');
                return;
            }
            writer.put('(');
            writer.putNumber(row[index]);
            writeTree(writer, row, size, index + stride, 2 * stride);
            writeTree(writer, row, size, index + 2 * stride, 2 * stride);
            writer.put(')');
        }
    }
}
