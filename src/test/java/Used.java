import java.util.NoSuchElementException;

/**
 * The program as the document lets it be used: what an object answers after its 512th call is free, so
 * no test may ask for it. The face is the program's own, each call counted.
 */
public final class Used {
    static final int MOST_CALLS = 512;

    private final EvenTrees x = new EvenTrees();
    private int calls = 0;

    /** How many calls are left. */
    int left() {
        return MOST_CALLS - calls;
    }

    private EvenTrees one() {
        if (calls == MOST_CALLS) {
            throw new IllegalStateException("a test asks for more than 512 calls of one object");
        }
        calls++;
        return x;
    }

    public int sign(int v) {
        return one().sign(v);
    }

    public boolean end(int n) {
        return one().end(n);
    }

    public int tells(int k) {
        return one().tells(k);
    }

    public int grows(int k) {
        return one().grows(k);
    }

    public int fills(int n, int v, int k) {
        return one().fills(n, v, k);
    }

    public int copies(int i, int k) {
        return one().copies(i, k);
    }

    public int sides(int i, int side, int k) {
        return one().sides(i, side, k);
    }

    public int roots(int v, int i, int j, int k) {
        return one().roots(v, i, j, k);
    }

    public int size(int i) {
        return one().size(i);
    }

    public int get(int i, int index) {
        return one().get(i, index);
    }

    public int path(int i, int index) {
        return one().path(i, index);
    }

    public int sets(int i, int index, int v, int k) {
        return one().sets(i, index, v, k);
    }

    public int front(int i, int v, int k) {
        return one().front(i, v, k);
    }

    public int back(int i, int v, int k) {
        return one().back(i, v, k);
    }

    public int first(int i, int k) {
        return one().first(i, k);
    }

    public int last(int i, int k) {
        return one().last(i, k);
    }

    public int adds(int i, int l, int r, int v, int k) {
        return one().adds(i, l, r, v, k);
    }

    public int appends(int i, int j, int k) {
        return one().appends(i, j, k);
    }

    public int turned(int i, int n, int k) {
        return one().turned(i, n, k);
    }

    public int reverses(int i, int k) {
        return one().reverses(i, k);
    }

    public int keeps(int i, int n, int k) {
        return one().keeps(i, n, k);
    }

    public int skips(int i, int n, int k) {
        return one().skips(i, n, k);
    }

    public int slips(int i, int index, int v, int k) {
        return one().slips(i, index, v, k);
    }

    public int swaps(int i, int one, int other, int k) {
        return one().swaps(i, one, other, k);
    }

    public int zips(int i, int j, int what, int k) {
        return one().zips(i, j, what, k);
    }

    public int parts(int i, int n, int k, int l) {
        return one().parts(i, n, k, l);
    }

    public int sorts(int i, int k) {
        return one().sorts(i, k);
    }

    public int merges(int i, int j, int k) {
        return one().merges(i, j, k);
    }

    public int picks(int i, int l, int r, int k) {
        return one().picks(i, l, r, k);
    }

    public int mirrors(int i, int k) {
        return one().mirrors(i, k);
    }

    public int heap(int i) {
        return one().heap(i);
    }

    public int push(int i, int v, int k) {
        return one().push(i, v, k);
    }

    public int pop(int i, int k) {
        return one().pop(i, k);
    }

    public int heaps(int i, int k) {
        return one().heaps(i, k);
    }

    public int numbers(int i, int from) {
        return one().numbers(i, from);
    }

    public int sum(int i, int l, int r) {
        return one().sum(i, l, r);
    }

    public int finds(int i, int v) {
        return one().finds(i, v);
    }

    public int same(int i, int j) {
        return one().same(i, j);
    }

    public int search(int i, int v) {
        return one().search(i, v);
    }

    public int reaches(int i, int v) {
        return one().reaches(i, v);
    }

    public int occurs(int i, int j) {
        return one().occurs(i, j);
    }

    public int differs(int i, int j) {
        return one().differs(i, j);
    }

    public int written(int i, int p) {
        return one().written(i, p);
    }

    public int costs(int n, int what) {
        return one().costs(n, what);
    }

    public int twins(int i) {
        return one().twins(i);
    }

    public int nodes() {
        return one().nodes();
    }

    public int own(int i) {
        return one().own(i);
    }

    public int level(int i, int d) {
        return one().level(i, d);
    }

    public int ways(int i, long indexes) {
        return one().ways(i, indexes);
    }

    public int count(int what) {
        return one().count(what);
    }

    public long row(int i) throws NoSuchElementException {
        return one().row(i);
    }
}
