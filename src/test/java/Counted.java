/**
 * A WrittenColumns that counts its calls: the document promises nothing after the 512th, so a test that
 * asks one object more than that is wrong itself.
 */
final class Counted {
    static final int MOST_CALLS = 512;

    private final WrittenColumns columns = new WrittenColumns();
    private int calls;

    int calls() {
        return calls;
    }

    private WrittenColumns next() {
        calls++;
        if (calls > MOST_CALLS) {
            throw new IllegalStateException("the test asks one object for more than " + MOST_CALLS + " answers");
        }
        return columns;
    }

    int reckon(int field, int what, int a, int b) {
        return next().reckon(field, what, a, b);
    }

    int uniform(int v, int n, int r) {
        return next().uniform(v, n, r);
    }

    int columns(int v, int field, int s, int n) {
        return next().columns(v, field, s, n);
    }

    int tell(int v, int s, int n) {
        return next().tell(v, s, n);
    }

    int cause(int what) {
        return next().cause(what);
    }

    int rank(int v, int set) {
        return next().rank(v, set);
    }

    int span(int v, int set) {
        return next().span(v, set);
    }

    int sorts(int v, int set) {
        return next().sorts(v, set);
    }

    int many(int v, int what) {
        return next().many(v, what);
    }

    int at(int v, int what, int k) {
        return next().at(v, what, k);
    }

    int best(int v, int s, int what) {
        return next().best(v, s, what);
    }

    int dual(int v, int w) {
        return next().dual(v, w);
    }

    int minor(int v, int w, int x, int y) {
        return next().minor(v, w, x, y);
    }

    int union(int v, int w, int u) {
        return next().union(v, w, u);
    }

    int renumber(int v, int w, int s) {
        return next().renumber(v, w, s);
    }

    int same(int v, int w) {
        return next().same(v, w);
    }

    int alike(int v, int w) {
        return next().alike(v, w);
    }

    int writings(int v, int field) {
        return next().writings(v, field);
    }

    int writes(int v, int field, int s) {
        return next().writes(v, field, s);
    }

    int clash(int v) {
        return next().clash(v);
    }

    int excluded(int v, int field, int what) {
        return next().excluded(v, field, what);
    }

    int seed(int v) {
        return next().seed(v);
    }

    int deal(int v, int field, int n, int r) {
        return next().deal(v, field, n, r);
    }

    int chance(int field, int n, int r, int m, int other) {
        return next().chance(field, n, r, m, other);
    }

    int hold(int h, int what, int k) {
        return next().hold(h, what, k);
    }

    int held(int h, int what) {
        return next().held(h, what);
    }

    int take(int v, int h) {
        return next().take(v, h);
    }

    int sheet(int s, int sort, int n) {
        return next().sheet(s, sort, n);
    }

    int write(int s, int i, int v) {
        return next().write(s, i, v);
    }

    int item(int s, int i) {
        return next().item(s, i);
    }

    int copy(int s, int i, int t, int j, int n) {
        return next().copy(s, i, t, j, n);
    }

    int list(int v, int s) {
        return next().list(v, s);
    }

    int image() {
        return next().image();
    }

    int back() {
        return next().back();
    }

    int count(int what) {
        return next().count(what);
    }
}
