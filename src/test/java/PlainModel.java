import java.util.ArrayList;
import java.util.Collections;
import java.util.IdentityHashMap;
import java.util.List;
import java.util.Map;
import java.util.NoSuchElementException;
import java.util.Set;

/** The document's words put into plain objects, as little like the program as they allow. */
public final class PlainModel {
    private record Tree(int v, Tree left, Tree right, Object self) { }

    private final Tree[] place = new Tree[6];
    private int made = 0;
    private String text = "";
    private List<Long> row = new ArrayList<>();

    /** Another one in the same state, as TREES never change. */
    PlainModel copy() {
        PlainModel result = new PlainModel();
        System.arraycopy(place, 0, result.place, 0, place.length);
        result.made = made;
        result.text = text;
        result.row = new ArrayList<>(row);
        return result;
    }

    // ---- TREES

    private Tree node(int v, Tree left, Tree right) {
        made++;
        return new Tree(v, left, right, new Object());
    }

    private static int sizeOf(Tree t) {
        return t == null ? 0 : 1 + sizeOf(t.left) + sizeOf(t.right);
    }

    private static Tree nodeAt(Tree t, int index) {
        if (index == 0) {
            return t;
        }
        return index % 2 == 1 ? nodeAt(t.left, (index - 1) / 2) : nodeAt(t.right, (index - 2) / 2);
    }

    private static List<Integer> all(Tree t) {
        List<Integer> result = new ArrayList<>();
        for (int i = 0; i < sizeOf(t); i++) {
            result.add(nodeAt(t, i).v);
        }
        return result;
    }

    private static List<Tree> everyNode(Tree t) {
        List<Tree> result = new ArrayList<>();
        if (t != null) {
            result.add(t);
            result.addAll(everyNode(t.left));
            result.addAll(everyNode(t.right));
        }
        return result;
    }

    private static Set<Object> unlike(Tree t) {
        Set<Object> result = Collections.newSetFromMap(new IdentityHashMap<>());
        for (Tree node : everyNode(t)) {
            result.add(node.self);
        }
        return result;
    }

    private Tree built(List<Integer> numbers) {
        if (numbers.isEmpty()) {
            return null;
        }
        List<Integer> odd = new ArrayList<>();
        List<Integer> even = new ArrayList<>();
        for (int i = 1; i < numbers.size(); i++) {
            (i % 2 == 1 ? odd : even).add(numbers.get(i));
        }
        return node(numbers.get(0), built(odd), built(even));
    }

    private Tree frontOf(int v, Tree t) {
        return t == null ? node(v, null, null) : node(v, frontOf(t.v, t.right), t.left);
    }

    private Tree backOf(int v, Tree t, int index) {
        if (index == 0) {
            return node(v, null, null);
        }
        return index % 2 == 1 ? node(t.v, backOf(v, t.left, (index - 1) / 2), t.right)
            : node(t.v, t.left, backOf(v, t.right, (index - 2) / 2));
    }

    private Tree backOf(int v, Tree t) {
        return backOf(v, t, sizeOf(t));
    }

    private Tree firstTaken(Tree t) {
        return sizeOf(t) == 1 ? null : node(t.left.v, t.right, firstTaken(t.left));
    }

    private Tree without(Tree t, int index) {
        if (index == 0) {
            return null;
        }
        return index % 2 == 1 ? node(t.v, without(t.left, (index - 1) / 2), t.right)
            : node(t.v, t.left, without(t.right, (index - 2) / 2));
    }

    private Tree lastTaken(Tree t) {
        return without(t, sizeOf(t) - 1);
    }

    /** now tells a NUMBER for each INDEX of the TREE that is to be CHANGED, null for each other. */
    private Tree changed(Tree t, List<Integer> now) {
        boolean any = false;
        List<Integer> odd = new ArrayList<>();
        List<Integer> even = new ArrayList<>();
        for (int i = 0; i < now.size(); i++) {
            any |= now.get(i) != null;
            if (i > 0) {
                (i % 2 == 1 ? odd : even).add(now.get(i));
            }
        }
        if (!any) {
            return t;
        }
        return node(now.get(0) == null ? t.v : now.get(0), changed(t.left, odd), changed(t.right, even));
    }

    private Tree pushOf(int v, Tree t) {
        return t == null ? node(v, null, null)
            : node(Math.min(v, t.v), pushOf(Math.max(v, t.v), t.right), t.left);
    }

    private Tree withoutFarLeft(Tree t) {
        return sizeOf(t) == 1 ? null : node(t.v, t.right, withoutFarLeft(t.left));
    }

    private Tree sift(int w, Tree a, Tree b) {
        if (a == null || w <= a.v && (b == null || w <= b.v)) {
            return node(w, a, b);
        }
        if (b == null || a.v <= b.v) {
            return node(a.v, sift(w, a.left, a.right), b);
        }
        return node(b.v, a, sift(w, b.left, b.right));
    }

    private Tree popOf(Tree t) {
        if (sizeOf(t) == 1) {
            return null;
        }
        Tree far = t.left;
        while (far.left != null) {
            far = far.left;
        }
        return sift(far.v, t.right, withoutFarLeft(t.left));
    }

    private Tree[] many(int n, int v) {
        if (n == 0) {
            return new Tree[] {null, node(v, null, null)};
        }
        Tree[] half = many(n % 2 == 1 ? (n - 1) / 2 : (n - 2) / 2, v);
        Tree a = half[0];
        Tree b = half[1];
        return n % 2 == 1 ? new Tree[] {node(v, a, a), node(v, b, a)} : new Tree[] {node(v, b, a), node(v, b, b)};
    }

    private static int[] countOf(Tree t) {
        if (t == null) {
            return new int[] {0, 1};
        }
        int[] m = countOf(t.right);
        int[] more = moreOf(t.left, m[0]);
        return new int[] {1 + 2 * m[0] + more[0], 1 + m[1] + more[1]};
    }

    private static int[] moreOf(Tree t, int m) {
        if (t == null || m == 0) {
            return new int[] {t == null ? 0 : 1, 1};
        }
        int[] next = m % 2 == 1 ? moreOf(t.left, (m - 1) / 2) : moreOf(t.right, (m - 2) / 2);
        return new int[] {next[0], next[1] + 1};
    }

    private static String told(Tree t) {
        return t == null ? "." : "(" + t.v + told(t.left) + told(t.right) + ")";
    }

    private static int depthOf(Tree t) {
        return t == null ? -1 : 1 + Math.max(depthOf(t.left), depthOf(t.right));
    }

    // ---- what calls share

    private static boolean places(int... all) {
        for (int i : all) {
            if (i < 0 || i > 5) {
                return false;
            }
        }
        return true;
    }

    private static boolean number(int v) {
        return -999 <= v && v <= 999;
    }

    private boolean within(int i, int from, int to, int slack) {
        return places(i) && 0 <= from && from <= to && to < sizeOf(place[i]) + slack;
    }

    int sizeFor(int i) {
        return places(i) ? n(i) : 0;
    }

    private int n(int i) {
        return sizeOf(place[i]);
    }

    private void tell(long... numbers) {
        row = new ArrayList<>();
        for (long number : numbers) {
            row.add(number);
        }
    }

    private int becomes(int k, Tree t, int before) {
        place[k] = t;
        return made - before;
    }

    private int becomes(int k, Tree t) {
        place[k] = t;
        return sizeOf(t);
    }

    private static int held(int v) {
        return Math.max(-999, Math.min(999, v));
    }

    // ---- THE TEXT: reading by a descent; the cursor stops at the place of the first sign that can't stand

    private static final class Wrong extends Exception {
        private static final long serialVersionUID = 1;
    }

    private String reading = "";
    private int cursor = 0;
    private List<int[]> uneven = new ArrayList<>();

    private char here() {
        return cursor < reading.length() ? reading.charAt(cursor) : 0x1000;
    }

    private int readNumber() throws Wrong {
        int start = cursor;
        if (here() == '-') {
            cursor++;
        }
        int digits = cursor;
        while (cursor < digits + 3 && here() >= '0' && here() <= '9') {
            cursor++;
        }
        if (cursor == digits) {
            throw new Wrong();
        }
        return Integer.parseInt(reading.substring(start, cursor));
    }

    private record Parsed(int v, Parsed left, Parsed right, int start, int size) { }

    private Parsed readTree(List<Parsed> found) throws Wrong {
        if (here() == '.') {
            cursor++;
            return null;
        }
        if (here() != '(') {
            throw new Wrong();
        }
        int start = cursor;
        cursor++;
        int slot = found.size();
        found.add(null);
        int v = readNumber();
        Parsed left = readTree(found);
        Parsed right = readTree(found);
        if (here() != ')') {
            throw new Wrong();
        }
        cursor++;
        int size = 1 + (left == null ? 0 : left.size) + (right == null ? 0 : right.size);
        Parsed result = new Parsed(v, left, right, start, size);
        found.set(slot, result);
        return result;
    }

    private Tree make(Parsed p) {
        return p == null ? null : node(p.v, make(p.left), make(p.right));
    }

    private void startReading() {
        reading = text;
        text = "";
        cursor = 0;
    }

    private List<Integer> readRow() throws Wrong {
        List<Integer> result = new ArrayList<>();
        if (reading.isEmpty()) {
            return result;
        }
        result.add(readNumber());
        while (cursor < reading.length()) {
            if (here() != ',') {
                throw new Wrong();
            }
            cursor++;
            result.add(readNumber());
        }
        return result;
    }

    // ---- the face

    public int sign(int v) {
        if (text.length() + 4 > 200) {
            return -1;
        }
        text += "" + (char) (v >> 24 & 255) + (char) (v >> 16 & 255) + (char) (v >> 8 & 255) + (char) (v & 255);
        return text.length();
    }

    public boolean end(int n) {
        if (n < 0 || n > text.length()) {
            return false;
        }
        text = text.substring(0, n);
        return true;
    }

    public int tells(int k) {
        startReading();
        try {
            List<Integer> numbers = readRow();
            return places(k) ? becomes(k, built(numbers)) : -1;
        } catch (Wrong e) {
            return -2000 - cursor;
        }
    }

    public int grows(int k) {
        startReading();
        List<Parsed> found = new ArrayList<>();
        Parsed whole;
        try {
            whole = readTree(found);
            if (cursor < reading.length()) {
                throw new Wrong();
            }
        } catch (Wrong e) {
            return -2000 - cursor;
        }
        if (!places(k)) {
            return -1;
        }
        for (Parsed p : found) {
            int left = p.left == null ? 0 : p.left.size;
            int right = p.right == null ? 0 : p.right.size;
            if (left < right || left > right + 1) {
                tell(p.start, left, right);
                return -2;
            }
        }
        return becomes(k, make(whole));
    }

    public int fills(int n, int v, int k) {
        int before = made;
        return n < 0 || n > 255 || !number(v) || !places(k) ? -1 : becomes(k, many(n, v)[0], before);
    }

    public int copies(int i, int k) {
        return places(i, k) ? becomes(k, place[i]) : -1;
    }

    public int sides(int i, int side, int k) {
        if (!places(i, k) || side != 0 && side != 1) {
            return -1;
        }
        Tree t = place[i] == null ? null : side == 0 ? place[i].left : place[i].right;
        return t == null ? -2 : becomes(k, t);
    }

    public int roots(int v, int i, int j, int k) {
        if (!number(v) || !places(i, j, k)) {
            return -1;
        }
        if (n(i) != n(j) && n(i) != n(j) + 1) {
            return -2;
        }
        return n(i) + n(j) + 1 > 255 ? -3 : becomes(k, node(v, place[i], place[j]));
    }

    public int size(int i) {
        if (!places(i)) {
            return -1;
        }
        tell(countOf(place[i])[1], depthOf(place[i]));
        return countOf(place[i])[0];
    }

    public int get(int i, int index) {
        return within(i, index, index, 0) ? all(place[i]).get(index) : -1000;
    }

    public int path(int i, int index) {
        if (!within(i, index, index, 0)) {
            return -1;
        }
        String way = "";
        for (int j = index; j > 0; ) {
            way += j % 2 == 1 ? "0" : "1";
            j = j % 2 == 1 ? (j - 1) / 2 : (j - 2) / 2;
        }
        tell(way.length());
        return way.isEmpty() ? 0 : Integer.parseInt(way, 2);
    }

    public int sets(int i, int index, int v, int k) {
        if (!within(i, index, index, 0) || !number(v) || !places(k)) {
            return -1;
        }
        List<Integer> now = new ArrayList<>(Collections.nCopies(n(i), null));
        if (nodeAt(place[i], index).v != v) {
            now.set(index, v);
        }
        int before = made;
        return becomes(k, changed(place[i], now), before);
    }

    public int front(int i, int v, int k) {
        int before = made;
        return !places(i, k) || !number(v) ? -1 : n(i) == 255 ? -2 : becomes(k, frontOf(v, place[i]), before);
    }

    public int back(int i, int v, int k) {
        int before = made;
        return !places(i, k) || !number(v) ? -1 : n(i) == 255 ? -2 : becomes(k, backOf(v, place[i]), before);
    }

    public int first(int i, int k) {
        if (!places(i, k) || n(i) == 0) {
            return !places(i, k) ? -1 : -2;
        }
        int before = made;
        tell(place[i].v);
        return becomes(k, firstTaken(place[i]), before);
    }

    public int last(int i, int k) {
        if (!places(i, k) || n(i) == 0) {
            return !places(i, k) ? -1 : -2;
        }
        int before = made;
        tell(nodeAt(place[i], n(i) - 1).v);
        return becomes(k, lastTaken(place[i]), before);
    }

    public int adds(int i, int l, int r, int v, int k) {
        if (!within(i, l, r, 1) || !number(v) || !places(k)) {
            return -1;
        }
        List<Integer> now = new ArrayList<>(Collections.nCopies(n(i), null));
        for (int x = l; x < r && v != 0; x++) {
            now.set(x, held(nodeAt(place[i], x).v + v));
        }
        int before = made;
        return becomes(k, changed(place[i], now), before);
    }

    public int appends(int i, int j, int k) {
        if (!places(i, j, k)) {
            return -1;
        }
        if (n(i) + n(j) > 255) {
            return -2;
        }
        int before = made;
        Tree t = place[i];
        for (int v : all(place[j])) {
            t = backOf(v, t);
        }
        return becomes(k, t, before);
    }

    public int turned(int i, int n, int k) {
        if (!places(i, k) || n < 0 || n > 255) {
            return -1;
        }
        if (n(i) == 0) {
            return -2;
        }
        int before = made;
        Tree t = place[i];
        for (int x = 0; x < n; x++) {
            t = backOf(t.v, firstTaken(t));
        }
        return becomes(k, t, before);
    }

    public int reverses(int i, int k) {
        if (!places(i, k)) {
            return -1;
        }
        List<Integer> numbers = all(place[i]);
        Collections.reverse(numbers);
        return becomes(k, built(numbers));
    }

    public int keeps(int i, int n, int k) {
        if (!within(i, n, n, 1) || !places(k)) {
            return -1;
        }
        int before = made;
        return becomes(k, kept(place[i], n), before);
    }

    private Tree kept(Tree t, int n) {
        return sizeOf(t) == n ? t : kept(lastTaken(t), n);
    }

    private Tree skipped(Tree t, int n) {
        return n == 0 ? t : skipped(firstTaken(t), n - 1);
    }

    public int skips(int i, int n, int k) {
        if (!within(i, n, n, 1) || !places(k)) {
            return -1;
        }
        int before = made;
        return becomes(k, skipped(place[i], n), before);
    }

    public int slips(int i, int index, int v, int k) {
        if (!within(i, index, index, 1) || !number(v) || !places(k)) {
            return -1;
        }
        if (n(i) == 255) {
            return -2;
        }
        List<Integer> numbers = all(place[i]);
        numbers.add(index, v);
        return becomes(k, built(numbers));
    }

    public int swaps(int i, int one, int other, int k) {
        if (!within(i, one, one, 0) || !within(i, other, other, 0) || !places(k)) {
            return -1;
        }
        List<Integer> numbers = all(place[i]);
        List<Integer> now = new ArrayList<>(Collections.nCopies(n(i), null));
        if (!numbers.get(one).equals(numbers.get(other))) {
            now.set(one, numbers.get(other));
            now.set(other, numbers.get(one));
        }
        int before = made;
        return becomes(k, changed(place[i], now), before);
    }

    public int zips(int i, int j, int what, int k) {
        if (!places(i, j, k) || what < 0 || what > 3) {
            return -1;
        }
        List<Integer> a = all(place[i]);
        List<Integer> b = all(place[j]);
        List<Integer> numbers = new ArrayList<>();
        for (int x = 0; x < a.size() && x < b.size(); x++) {
            int p = a.get(x);
            int q = b.get(x);
            numbers.add(what == 0 ? held(p + q) : what == 1 ? held(p - q) : what == 2 ? Math.min(p, q) : Math.max(p, q));
        }
        return becomes(k, built(numbers));
    }

    public int parts(int i, int n, int k, int l) {
        if (!within(i, n, n, 1) || !places(k, l)) {
            return -1;
        }
        if (k == l) {
            return -2;
        }
        int before = made;
        Tree was = place[i];
        place[k] = kept(was, n);
        place[l] = skipped(was, n);
        return made - before;
    }

    public int sorts(int i, int k) {
        if (!places(i, k)) {
            return -1;
        }
        List<Integer> old = all(place[i]);
        List<Integer> numbers = all(place[i]);
        Collections.sort(numbers);
        int moved = 0;
        for (int x = 0; x < old.size(); x++) {
            moved += old.get(x).equals(numbers.get(x)) ? 0 : 1;
        }
        tell(moved);
        return becomes(k, built(numbers));
    }

    public int merges(int i, int j, int k) {
        if (!places(i, j, k)) {
            return -1;
        }
        if (n(i) + n(j) > 255) {
            return -2;
        }
        List<Integer> a = all(place[i]);
        List<Integer> b = all(place[j]);
        List<Integer> numbers = new ArrayList<>();
        while (!a.isEmpty() || !b.isEmpty()) {
            boolean ofA = b.isEmpty() || !a.isEmpty() && a.get(0) <= b.get(0);
            numbers.add((ofA ? a : b).remove(0));
        }
        return becomes(k, built(numbers));
    }

    public int picks(int i, int l, int r, int k) {
        if (!places(i, k) || !number(l) || !number(r)) {
            return -1;
        }
        List<Integer> numbers = all(place[i]);
        numbers.removeIf(v -> v < l || v > r);
        return becomes(k, built(numbers));
    }

    private Tree mirror(Tree t) {
        return t == null ? null : node(t.v, mirror(t.right), mirror(t.left));
    }

    private static boolean turnsEven(Tree t) {
        int more = t == null ? 0 : sizeOf(t.right) - sizeOf(t.left);
        return t == null || more >= 0 && more <= 1 && turnsEven(t.left) && turnsEven(t.right);
    }

    public int mirrors(int i, int k) {
        return !places(i, k) ? -1 : !turnsEven(place[i]) ? -2 : becomes(k, mirror(place[i]));
    }

    public int heap(int i) {
        if (!places(i)) {
            return -1;
        }
        for (int x = 1; x < n(i); x++) {
            Tree node = nodeAt(place[i], x);
            for (Tree above : everyNode(place[i])) {
                if (isChildAt(place[i], above, x) && above.v > node.v) {
                    tell(x);
                    return 0;
                }
            }
        }
        tell(-1);
        return 1;
    }

    /** Whether the NODE come to on the way to an INDEX, less the last step, is this one. */
    private static boolean isChildAt(Tree root, Tree above, int index) {
        Tree t = root;
        Tree up = null;
        for (int j = index; j > 0; ) {
            up = t;
            t = j % 2 == 1 ? t.left : t.right;
            j = j % 2 == 1 ? (j - 1) / 2 : (j - 2) / 2;
        }
        return up == above;
    }

    public int push(int i, int v, int k) {
        int before = made;
        return !places(i, k) || !number(v) ? -1 : n(i) == 255 ? -2 : becomes(k, pushOf(v, place[i]), before);
    }

    public int pop(int i, int k) {
        if (!places(i, k) || n(i) == 0) {
            return !places(i, k) ? -1 : -2;
        }
        int before = made;
        tell(place[i].v);
        return becomes(k, popOf(place[i]), before);
    }

    public int heaps(int i, int k) {
        if (!places(i, k)) {
            return -1;
        }
        int before = made;
        Tree t = null;
        for (int v : all(place[i])) {
            t = pushOf(v, t);
        }
        return becomes(k, t, before);
    }

    public int numbers(int i, int from) {
        if (!within(i, from, from, 1)) {
            return -1;
        }
        List<Integer> part = all(place[i]).subList(from, Math.min(n(i), from + 16));
        row = new ArrayList<>();
        for (int v : part) {
            row.add((long) v);
        }
        return part.size();
    }

    public int sum(int i, int l, int r) {
        if (!within(i, l, r, 1)) {
            return -1000000;
        }
        List<Integer> part = all(place[i]).subList(l, r);
        if (part.isEmpty()) {
            tell();
            return 0;
        }
        int least = Collections.min(part);
        int greatest = Collections.max(part);
        tell(least, greatest, l + part.indexOf(least), l + part.indexOf(greatest));
        return part.stream().mapToInt(v -> v).sum();
    }

    public int finds(int i, int v) {
        if (!places(i) || !number(v)) {
            return -1;
        }
        List<Integer> numbers = all(place[i]);
        if (!numbers.contains(v)) {
            return -2;
        }
        tell(Collections.frequency(numbers, v), numbers.lastIndexOf(v));
        return numbers.indexOf(v);
    }

    public int same(int i, int j) {
        if (!places(i, j)) {
            return -1;
        }
        List<Integer> a = all(place[i]);
        List<Integer> b = all(place[j]);
        int x = 0;
        while (x < a.size() && x < b.size() && a.get(x).equals(b.get(x))) {
            x++;
        }
        Set<Object> both = unlike(place[i]);
        both.retainAll(unlike(place[j]));
        tell(a.equals(b) ? -1 : x, both.size());
        return a.equals(b) ? 1 : 0;
    }

    public int search(int i, int v) {
        if (!places(i) || !number(v)) {
            return -1;
        }
        List<Integer> numbers = all(place[i]);
        int low = 0;
        int high = numbers.size();
        int looked = 0;
        while (low < high) {
            int mid = (low + high) / 2;
            looked++;
            if (numbers.get(mid) < v) {
                low = mid + 1;
            } else {
                high = mid;
            }
        }
        tell(looked, low < numbers.size() && numbers.get(low) == v ? 1 : 0);
        return low;
    }

    public int reaches(int i, int v) {
        if (!places(i)) {
            return -1;
        }
        for (int n = 0; n <= n(i); n++) {
            int sum = all(place[i]).subList(0, n).stream().mapToInt(x -> x).sum();
            if (sum >= v) {
                tell(sum);
                return n;
            }
        }
        return -2;
    }

    public int occurs(int i, int j) {
        if (!places(i, j)) {
            return -1;
        }
        List<Integer> a = all(place[i]);
        List<Integer> b = all(place[j]);
        List<Integer> found = new ArrayList<>();
        for (int x = 0; x + b.size() <= a.size(); x++) {
            if (a.subList(x, x + b.size()).equals(b)) {
                found.add(x);
            }
        }
        tell(found.isEmpty() ? -1 : found.get(0), found.isEmpty() ? -1 : found.get(found.size() - 1));
        return found.size();
    }

    public int differs(int i, int j) {
        if (!places(i, j) || n(i) != n(j)) {
            return places(i, j) ? -2 : -1;
        }
        List<Integer> a = all(place[i]);
        List<Integer> now = all(place[j]);
        int unlike = 0;
        for (int x = 0; x < a.size(); x++) {
            if (a.get(x).equals(now.get(x))) {
                now.set(x, null);
            } else {
                unlike++;
            }
        }
        tell(unlike);
        return madeBy(place[i], now);
    }

    private int madeBy(Tree t, List<Integer> now) {
        int before = made;
        changed(t, now);
        int result = made - before;
        made = before;
        return result;
    }

    public int written(int i, int p) {
        if (!places(i) || p < -1) {
            return -1;
        }
        String signs = told(place[i]);
        return p == -1 ? signs.length() : p < signs.length() ? signs.charAt(p) : -1;
    }

    public int costs(int n, int what) {
        if (n < 0 || n > 255 || what < 0 || what > 5) {
            return -1;
        }
        if (n == 0 && (what == 2 || what == 3) || n == 255 && (what < 2 || what == 4)) {
            return -2;
        }
        int before = made;
        Tree t = many(n, 0)[0];
        made = before;
        if (what == 5) {
            return countOf(t)[1];
        }
        Tree after = what == 0 ? frontOf(0, t) : what == 1 ? backOf(0, t) : what == 2 ? firstTaken(t)
            : what == 3 ? lastTaken(t) : pushOf(0, t);
        int result = made - before;
        made = before;
        return after == t ? -9 : result;
    }

    private static Map<Object, Integer> times(Tree t) {
        Map<Object, Integer> result = new IdentityHashMap<>();
        for (Tree node : everyNode(t)) {
            result.merge(node.self, 1, Integer::sum);
        }
        return result;
    }

    public int twins(int i) {
        if (!places(i)) {
            return -1;
        }
        Map<Object, Integer> times = times(place[i]);
        int most = 0;
        int several = 0;
        for (int n : times.values()) {
            most = Math.max(most, n);
            several += n > 1 ? 1 : 0;
        }
        tell(most, n(i) - times.size());
        return several;
    }

    public int nodes() {
        Map<Object, Integer> places = new IdentityHashMap<>();
        int sizes = 0;
        for (Tree t : place) {
            sizes += sizeOf(t);
            for (Object node : unlike(t)) {
                places.merge(node, 1, Integer::sum);
            }
        }
        tell(places.values().stream().filter(n -> n > 1).count(), sizes);
        return places.size();
    }

    public int own(int i) {
        if (!places(i)) {
            return -1;
        }
        Set<Object> alone = unlike(place[i]);
        int all = alone.size();
        for (int p = 0; p < 6; p++) {
            if (p != i) {
                for (Object node : unlike(place[p])) {
                    alone.remove(node);
                }
            }
        }
        tell(alone.size());
        return all;
    }

    private static void collect(Tree t, int d, List<Integer> into) {
        if (t != null && d == 0) {
            into.add(t.v);
        } else if (t != null) {
            collect(t.left, d - 1, into);
            collect(t.right, d - 1, into);
        }
    }

    public int level(int i, int d) {
        if (!places(i) || d < 0 || d > 7) {
            return -1;
        }
        List<Integer> found = new ArrayList<>();
        collect(place[i], d, found);
        tell(found.stream().mapToInt(v -> v).sum());
        return found.size();
    }

    public int ways(int i, long indexes) {
        if (!places(i) || indexes < 0 || indexes >= 1L << 62) {
            return -1;
        }
        List<Integer> now = new ArrayList<>(Collections.nCopies(n(i), null));
        for (int x = 0; x < 62 && x < n(i); x++) {
            if ((indexes >> x & 1) == 1) {
                now.set(x, 0);
            }
        }
        return madeBy(place[i], now);
    }

    public int count(int what) {
        int bits = 0;
        for (int p = 0; p < 6; p++) {
            bits += place[p] == null ? 0 : 1 << p;
        }
        int[] answers = {bits, made, row.size(), text.length(), 1};
        return what < 0 || what > 4 ? -1 : answers[what];
    }

    public long row(int i) throws NoSuchElementException {
        if (i < 0 || i >= row.size()) {
            throw new NoSuchElementException();
        }
        return row.get(i);
    }
}
