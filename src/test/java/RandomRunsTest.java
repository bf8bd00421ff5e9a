import java.util.Random;

/**
 * All promises: runs of 512 calls on the program and beside it on a plainer directory. The seeds are
 * fixed, so every run of this test makes the same calls.
 */
public final class RandomRunsTest {
    private static final int RUNS = 3000;
    private static final int[] EDGES = {Integer.MIN_VALUE, -10, -2, -1, 0, 1, 2, 3, 4, 5, 6, 7, 29, 30,
        31, 39, 40, 41, 63, 64, 100, 101, 299, 300, 999999, 1000000, 1000001, Integer.MAX_VALUE};

    private final Random random;
    private final Watched x;
    private final PlainDirectory y;
    private final String run;
    private final int manner;

    private static int fullRuns = 0;
    private static int fullByEpochs = 0;
    private static int fullByBlocks = 0;
    private static int stopsInClosing = 0;
    private static int stopsAtCheckpoint = 0;
    private static int accepted = 0;
    private static int includedTrue = 0;
    private static int consistentTrue = 0;
    private static int followed = 0;
    private static int extracted = 0;
    private static int extractedBelowRoot = 0;

    private RandomRunsTest(int seed) {
        random = new Random(seed);
        int[] widths = {4, 4, 5, 6, 8, 16, 31, 31, -3, 40};
        int width = widths[random.nextInt(widths.length)];
        manner = random.nextInt(4);
        x = new Watched(width);
        y = new PlainDirectory(width);
        run = "run " + seed + " (width " + width + ") ";
    }

    public static void main(String[] args) {
        for (int seed = 0; seed < RUNS; seed++) {
            new RandomRunsTest(seed).go();
        }
        Due.due("runs of all calls that an object is used for", fullRuns, RUNS);
        reached("FULL by epochs", fullByEpochs);
        reached("FULL by blocks", fullByBlocks);
        reached("stops in closing", stopsInClosing);
        reached("stops at a checkpoint", stopsAtCheckpoint);
        reached("accepted lookups", accepted);
        reached("accepted inclusions", includedTrue);
        reached("accepted consistencies", consistentTrue);
        reached("heads followed", followed);
        reached("inputs extracted", extracted);
        reached("inputs extracted below the root", extractedBelowRoot);
        Due.end();
    }

    /** A run that never comes there would test nothing there. */
    private static void reached(String what, int count) {
        System.out.println(what + ": " + count);
        Due.due("enough of: " + what, count >= 20, true);
    }

    /** The program ends the run in the midst of a step, by the call behind its last one. */
    private void go() {
        try {
            for (int steps = 0; steps < 10 * Watched.MOST_CALLS; steps++) {
                step();
            }
        } catch (Watched.TooManyCalls ended) {
            fullRuns++;
        }
    }

    private void same(String call, long got, long want) {
        Due.due(run + "call " + x.calls() + ": " + call, got, want);
    }

    private void same(String call, boolean got, boolean want) {
        same(call, got ? 1 : 0, want ? 1 : 0);
    }

    private int below(int n) {
        return random.nextInt(n);
    }

    /** A number from 0 on, or now and then one at an edge. */
    private int some(int n) {
        return below(25) == 0 ? EDGES[below(EDGES.length)] : below(n);
    }

    private int someName() {
        return some(below(3) == 0 ? 64 : 8);
    }

    private int someEpoch() {
        return some(Math.max(1, y.size(0)));
    }

    private void step() {
        if (manner < 2 && below(10) < 6) {
            putSome();
            close();
            return;
        }
        switch (below(16)) {
            case 0, 1, 2 -> putSome();
            case 3, 4 -> close();
            case 5 -> stopOrStart();
            case 6 -> look();
            case 7, 8 -> proveAndCheckLookup();
            case 9 -> proveAndCheckInclusion();
            case 10 -> proveAndCheckConsistency();
            case 11 -> followOne();
            case 12 -> change(some(4));
            case 13, 14 -> contradict();
            default -> callAnything();
        }
    }

    private void putSome() {
        int most = manner == 0 ? 30 : manner == 1 ? 1 : 5;
        for (int i = below(most + 1); i > 0; i--) {
            int name = someName();
            int key = 1 + some(5);
            same("put(" + name + ", " + key + ")", x.put(name, key), y.put(name, key));
        }
    }

    private void close() {
        int epochs = y.size(0);
        int want = y.close();
        same("close()", x.close(), want);
        if (want == -2) {
            fullByEpochs += epochs == 40 ? 1 : 0;
            fullByBlocks += epochs < 40 ? 1 : 0;
        }
        for (int i = Math.max(0, y.size(1) - 4); i < y.size(1); i++) {
            int what = below(3);
            same("block(" + i + ", " + what + ")", x.block(i, what), y.block(i, what));
        }
    }

    private void stopOrStart() {
        if (y.size(6) == 1) {
            same("restart()", x.restart(), y.restart());
        } else if (below(3) == 0) {
            int k = below(6) == 0 ? some(110) : 1 + below(8);
            same("fuse(" + k + ")", x.fuse(k), y.fuse(k));
            int epochs = y.size(0);
            close();
            if (y.size(6) == 1) {
                stopsInClosing += y.size(0) == epochs ? 1 : 0;
                stopsAtCheckpoint += y.size(0) > epochs ? 1 : 0;
                for (int what = 0; what <= 6; what++) {
                    same("size(" + what + ")", x.size(what), y.size(what));
                }
            }
        }
    }

    private void look() {
        int what = some(8);
        same("size(" + what + ")", x.size(what), y.size(what));
        int e = someEpoch();
        same("root(" + e + ")", x.root(e), y.root(e));
        same("head(" + e + ")", x.head(e), y.head(e));
        int i = some(Math.max(1, y.size(1) + 2));
        int part = some(3);
        same("block(" + i + ", " + part + ")", x.block(i, part), y.block(i, part));
        int t = random.nextInt();
        same("hash(" + t + ", " + i + ", " + e + ")", x.hash(t, i, e), y.hash(t, i, e));
    }

    private void prove(int b, int kind, int p, int q) {
        String call = "prove(" + b + ", " + kind + ", " + p + ", " + q + ")";
        same(call, x.prove(b, kind, p, q), y.prove(b, kind, p, q));
        same("size(4)", x.size(4), y.size(4));
        same("size(5)", x.size(5), y.size(5));
        sameWords(b);
    }

    private void sameWords(int b) {
        for (int i = -1; i <= y.word(b, -1); i++) {
            same("word(" + b + ", " + i + ")", x.word(b, i), y.word(b, i));
        }
    }

    private void check(int b, int name, int root) {
        int want = y.check(b, name, root);
        accepted += want >= 0 ? 1 : 0;
        same("check(" + b + ", " + name + ", " + root + ")", x.check(b, name, root), want);
    }

    private void proveAndCheckLookup() {
        int b = some(4);
        int name = someName();
        int e = someEpoch();
        prove(b, 0, name, e);
        check(b, name, y.root(e));
        if (below(3) == 0) {
            change(b);
            check(b, name, y.root(e));
            check(b, someName(), y.root(e));
        }
    }

    private void included(int b, int e, int n, int root, int head) {
        boolean want = y.included(b, e, n, root, head);
        includedTrue += want ? 1 : 0;
        String call = "included(" + b + ", " + e + ", " + n + ", " + root + ", " + head + ")";
        same(call, x.included(b, e, n, root, head), want);
    }

    private void proveAndCheckInclusion() {
        int b = some(4);
        int n = someEpoch();
        int e = n >= 0 && n < 40 ? some(n + 1) : someEpoch();
        prove(b, 1, e, n);
        included(b, e, n, y.root(e), y.head(n));
        if (below(3) == 0) {
            change(b);
            included(b, e, n, y.root(e), y.head(n));
            included(b, someEpoch(), some(40), y.root(e), y.head(n));
        }
    }

    private void consistent(int b, int m, int n, int old, int head) {
        boolean want = y.consistent(b, m, n, old, head);
        consistentTrue += want ? 1 : 0;
        String call = "consistent(" + b + ", " + m + ", " + n + ", " + old + ", " + head + ")";
        same(call, x.consistent(b, m, n, old, head), want);
    }

    private void proveAndCheckConsistency() {
        int b = some(4);
        int n = someEpoch();
        int m = n >= 0 && n < 40 ? some(n + 1) : someEpoch();
        prove(b, 2, m, n);
        consistent(b, m, n, y.head(m), y.head(n));
        if (below(3) == 0) {
            change(b);
            consistent(b, m, n, y.head(m), y.head(n));
            consistent(b, someEpoch(), some(40), y.head(m), y.head(n));
        }
    }

    private void followOne() {
        int b = some(4);
        int n = below(4) == 0 ? someEpoch() : y.size(0) - 1;
        if (y.seen(0) >= 0) {
            prove(b, 2, y.seen(0), n);
        }
        int head = below(4) == 0 ? some(16) : y.head(n);
        boolean want = y.follow(b, n, head);
        followed += want ? 1 : 0;
        same("follow(" + b + ", " + n + ", " + head + ")", x.follow(b, n, head), want);
        for (int what = 0; what <= 1; what++) {
            same("seen(" + what + ")", x.seen(what), y.seen(what));
        }
    }

    private void change(int b) {
        int count = Math.max(0, y.word(b, -1));
        if (below(4) == 0) {
            int n = some(count + 2);
            same("trim(" + b + ", " + n + ")", x.trim(b, n), y.trim(b, n));
        } else {
            int i = some(count + 2);
            poke(b, i, some(16));
        }
    }

    private void poke(int b, int i, int w) {
        same("poke(" + b + ", " + i + ", " + w + ")", x.poke(b, i, w), y.poke(b, i, w));
    }

    /** Two forged lookups of a name: with a small width one of the tries is soon accepted. */
    private void contradict() {
        int name = below(64);
        int epoch = Math.max(0, y.size(0) - 1);
        prove(0, 0, name, epoch);
        int root = y.root(epoch);
        if (y.check(0, name, root) < 0) {
            root = forge(0, name, 0, 1);
        }
        forge(1, name, root, 60);
        extract(0, 1, name, root);
        extract(1, 0, name, root);
    }

    /** Tried out on the plain directory alone; the program then gets the words that came of it. */
    private int forge(int b, int name, int root, int tries) {
        int d = below(3) == 0 ? y.word(0, 0) : below(7);
        d = d < 0 || d > 6 ? 0 : d;
        y.trim(b, 0);
        x.trim(b, 0);
        boolean nothing = below(4) == 0;
        y.poke(b, 0, d);
        y.poke(b, 1, nothing ? -1 : name);
        y.poke(b, 2, nothing ? 0 : 1 + below(9));
        for (int i = 0; i < d; i++) {
            int honest = y.word(1 - b, 3 + i);
            y.poke(b, 3 + i, honest != -2 && below(3) != 0 ? honest : below(16));
        }
        for (int t = 0; t < tries && tries > 1 && y.check(b, name, root) < 0; t++) {
            int i = 2 + below(d + 1);
            y.poke(b, i, i > 2 ? below(1 << 12) : nothing ? 0 : 1 + below(1000000));
        }
        for (int i = 0; i < 3 + d; i++) {
            x.poke(b, i, y.word(b, i));
        }
        return anyRootOf(b, name);
    }

    private int anyRootOf(int b, int name) {
        for (int root = 0; root < 256; root++) {
            if (y.check(b, name, root) >= 0) {
                return root;
            }
        }
        return 1;
    }

    private void extract(int b, int c, int name, int root) {
        boolean want = y.extract(b, c, name, root);
        String call = "extract(" + b + ", " + c + ", " + name + ", " + root + ")";
        same(call, x.extract(b, c, name, root), want);
        for (int i = 0; i < 6; i++) {
            same("clash(" + i + ")", x.clash(i), y.clash(i));
        }
        if (want) {
            extracted++;
            int one = x.hash(x.clash(0), x.clash(1), x.clash(2));
            int two = x.hash(x.clash(3), x.clash(4), x.clash(5));
            same("the digests of what was extracted", one, two);
            extractedBelowRoot += one != root ? 1 : 0;
        }
    }

    private void callAnything() {
        int a = some(5);
        int b = some(5);
        int c = some(64);
        int d = some(40);
        int e = some(16);
        switch (below(12)) {
            case 0 -> same("restart()", x.restart(), y.restart());
            case 1 -> same("word(" + a + ", " + b + ")", x.word(a, b), y.word(a, b));
            case 2 -> same("seen(" + a + ")", x.seen(a), y.seen(a));
            case 3 -> same("clash(" + b + ")", x.clash(b), y.clash(b));
            case 4 -> check(a, c, e);
            case 5 -> included(a, b, d, c, e);
            case 6 -> consistent(a, b, d, c, e);
            case 7 -> extract(a, b, c, e);
            case 8 -> prove(a, b, c, d);
            case 9 -> same("size(" + c + ")", x.size(c), y.size(c));
            case 10 -> same("fuse(" + c + ")", x.fuse(c), y.fuse(c));
            default -> poke(a, d, e);
        }
    }
}
