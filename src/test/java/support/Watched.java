/** The program with its calls counted: nothing is promised behind the 512th, so no test asks there. */
final class Watched {
    static final int MOST_CALLS = 512;

    private final EpochDirectory watched;
    private int calls = 0;

    Watched(int width) {
        watched = new EpochDirectory(width);
    }

    static final class TooManyCalls extends RuntimeException {
        private static final long serialVersionUID = 1L;
    }

    private EpochDirectory next() {
        if (calls == MOST_CALLS) {
            throw new TooManyCalls();
        }
        calls++;
        return watched;
    }

    int calls() {
        return calls;
    }

    int hash(int t, int x, int y) {
        return next().hash(t, x, y);
    }

    int put(int name, int key) {
        return next().put(name, key);
    }

    int close() {
        return next().close();
    }

    boolean fuse(int k) {
        return next().fuse(k);
    }

    int restart() {
        return next().restart();
    }

    int root(int e) {
        return next().root(e);
    }

    int head(int e) {
        return next().head(e);
    }

    int block(int i, int what) {
        return next().block(i, what);
    }

    int size(int what) {
        return next().size(what);
    }

    int prove(int b, int kind, int x, int y) {
        return next().prove(b, kind, x, y);
    }

    int word(int b, int i) {
        return next().word(b, i);
    }

    boolean poke(int b, int i, int w) {
        return next().poke(b, i, w);
    }

    boolean trim(int b, int n) {
        return next().trim(b, n);
    }

    int check(int b, int name, int root) {
        return next().check(b, name, root);
    }

    boolean included(int b, int e, int n, int root, int head) {
        return next().included(b, e, n, root, head);
    }

    boolean consistent(int b, int m, int n, int old, int head) {
        return next().consistent(b, m, n, old, head);
    }

    boolean follow(int b, int n, int head) {
        return next().follow(b, n, head);
    }

    int seen(int what) {
        return next().seen(what);
    }

    boolean extract(int b, int c, int name, int root) {
        return next().extract(b, c, name, root);
    }

    int clash(int i) {
        return next().clash(i);
    }
}
