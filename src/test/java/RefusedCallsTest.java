import java.util.ArrayList;
import java.util.List;
import java.util.function.Consumer;
import java.util.function.Supplier;
import java.util.function.ToIntFunction;

/**
 * "A call that is refused, or answers false, changes nothing": of two directories made alike, one gets
 * the call and the other does not, and from then on both must answer alike. What no call tells (what
 * was put, and the fuse) shows in how both go on.
 */
public final class RefusedCallsTest {
    private static final int MIN = Made.MIN;
    private static final int MAX = Made.MAX;
    private static final int[] NO_BUFFERS = {MIN, -1, 4, MAX};
    private static final int[] NO_NAMES = {MIN, -1, 64, MAX};
    private static final int[] NO_EPOCHS = {MIN, -1, 40, MAX};

    public static void main(String[] args) {
        Due.sentence("A call that is refused, or answers false, changes nothing");
        everywhere(RefusedCallsTest::neverChanging);
        everywhere(RefusedCallsTest::buffers);
        everywhere(RefusedCallsTest::checks);
        refusedWhileItRuns(RefusedCallsTest::running);
        refusedWhileItRuns(RefusedCallsTest::newOne);
        refusedProofs();
        refusedWhenStopped(RefusedCallsTest::stoppedInClosing);
        refusedWhenStopped(RefusedCallsTest::stoppedAtTheCheckpoint);
        refusedWithFortyEpochs();
        refusedForBlocks();
        auditorThatHasSeenNone();
        auditorThatHasSeen();
        Due.end();
    }

    /** Three epochs, proofs in the buffers, a head seen, inputs taken out, two names put, a fuse. */
    private static Watched running() {
        Watched x = new Watched(4);
        Made.putThree(x, 1);
        x.close();
        x.put(5, 10);
        x.close();
        x.put(1, 20);
        x.close();
        Due.fill(x, 0, 0, 3, 7);
        Due.fill(x, 1, 0, 3, 8);
        x.extract(0, 1, 3, 6);
        x.prove(1, 2, 1, 2);
        x.prove(2, 1, 2, 2);
        x.prove(3, 0, 5, 1);
        x.follow(0, 1, x.head(1));
        x.put(9, 30);
        x.put(2, 31);
        x.fuse(8);
        Due.due("inputs were taken out", x.clash(0), 1);
        Due.due("a head was seen", x.seen(0), 1);
        return x;
    }

    private static Watched newOne() {
        return new Watched(16);
    }

    private static Watched stoppedInClosing() {
        Watched x = running();
        x.fuse(2);
        x.close();
        Due.due("epochs when stopped in closing", x.size(0), 3);
        return x;
    }

    /** The leaves of 2 and 9, three nodes above them and the checkpoint are 6 blocks. */
    private static Watched stoppedAtTheCheckpoint() {
        Watched x = running();
        x.fuse(6);
        x.close();
        Due.due("epochs when stopped at the checkpoint", x.size(0), 4);
        return x;
    }

    private static Watched fortyEpochs() {
        Watched x = Made.epochs(16, 40);
        x.prove(0, 0, 5, 39);
        x.put(9, 7);
        x.fuse(1);
        return x;
    }

    private static Watched fullOfBlocks() {
        Watched x = Made.blocks292();
        x.put(17, 9);
        x.put(62, 9);
        x.fuse(1);
        return x;
    }

    private static void everywhere(Consumer<Supplier<Watched>> calls) {
        calls.accept(RefusedCallsTest::newOne);
        calls.accept(RefusedCallsTest::running);
        calls.accept(RefusedCallsTest::stoppedInClosing);
        calls.accept(RefusedCallsTest::stoppedAtTheCheckpoint);
        calls.accept(RefusedCallsTest::fortyEpochs);
    }

    private static void refused(Supplier<Watched> state, String call, int due,
            ToIntFunction<Watched> asked) {
        Watched x = state.get();
        Watched twin = state.get();
        Due.due(call, asked.applyAsInt(x), due);
        same(call + ", at once", told(x), told(twin));
        same(call + ", going on", goOn(x), goOn(twin));
        same(call + ", in the end", told(x), told(twin));
    }

    private static void same(String call, List<Integer> got, List<Integer> want) {
        Due.due(call + ": how much is told", got.size(), want.size());
        for (int i = 0; i < Math.min(got.size(), want.size()); i++) {
            Due.due(call + ": answer " + i, got.get(i), want.get(i));
        }
    }

    /** All that the calls tell, of the epochs and blocks the last ones. */
    private static List<Integer> told(Watched x) {
        List<Integer> told = new ArrayList<>();
        for (int what = -1; what <= 7; what++) {
            told.add(x.size(what));
        }
        int epochs = x.size(0);
        for (int e = Math.max(0, epochs - 4); e <= epochs; e++) {
            told.add(x.root(e));
            told.add(x.head(e));
        }
        int blocks = x.size(1);
        for (int i = Math.max(0, blocks - 10); i <= blocks; i++) {
            for (int what = 0; what <= 2; what++) {
                told.add(x.block(i, what));
            }
        }
        for (int b = 0; b < 4; b++) {
            for (int i = -1; i <= 6; i++) {
                told.add(x.word(b, i));
            }
        }
        told.add(x.seen(0));
        told.add(x.seen(1));
        for (int i = 0; i < 6; i++) {
            told.add(x.clash(i));
        }
        return told;
    }

    /** Closes what was put and burns the fuse, and does so once more. */
    private static List<Integer> goOn(Watched x) {
        List<Integer> told = new ArrayList<>();
        told.add(x.restart());
        told.add(x.put(50, 41));
        for (int i = 0; i < 4; i++) {
            told.add(x.close());
            told.add(x.size(1));
            told.add(x.size(2));
        }
        told.add(x.restart());
        told.add(x.close());
        told.add(x.prove(0, 0, 9, x.size(0) - 1));
        told.add(x.prove(1, 2, 0, x.size(0) - 1));
        return told;
    }

    private static void neverChanging(Supplier<Watched> state) {
        refused(state, "root(-1)", -1, x -> x.root(-1));
        refused(state, "root(40)", -1, x -> x.root(40));
        refused(state, "head(-1)", -1, x -> x.head(-1));
        refused(state, "head(40)", -1, x -> x.head(40));
        refused(state, "block(-1, 0)", -2, x -> x.block(-1, 0));
        refused(state, "block(300, 0)", -2, x -> x.block(300, 0));
        refused(state, "block(0, 3)", -2, x -> x.block(0, 3));
        refused(state, "size(7)", -1, x -> x.size(7));
        refused(state, "seen(2)", -1, x -> x.seen(2));
        refused(state, "clash(6)", 0, x -> x.clash(6));
        refused(state, "fuse(0)", 0, x -> x.fuse(0) ? 1 : 0);
        refused(state, "fuse(101)", 0, x -> x.fuse(101) ? 1 : 0);
    }

    private static void buffers(Supplier<Watched> state) {
        for (int b : NO_BUFFERS) {
            refused(state, "word() of " + b, -2, x -> x.word(b, 0));
            refused(state, "poke() of " + b, 0, x -> x.poke(b, 0, 5) ? 1 : 0);
            refused(state, "trim() of " + b, 0, x -> x.trim(b, 0) ? 1 : 0);
        }
        for (int b = 0; b < 4; b++) {
            int buffer = b;
            refused(state, "word(30)", -2, x -> x.word(buffer, 30));
            refused(state, "poke(-1)", 0, x -> x.poke(buffer, -1, 5) ? 1 : 0);
            refused(state, "poke(30)", 0, x -> x.poke(buffer, 30, 5) ? 1 : 0);
            refused(state, "poke() too far", 0, x -> poke(x, buffer, x.word(buffer, -1) + 1));
            refused(state, "trim(-1)", 0, x -> x.trim(buffer, -1) ? 1 : 0);
            refused(state, "trim() too far", 0, x -> trim(x, buffer, x.word(buffer, -1) + 1));
        }
    }

    private static int poke(Watched x, int b, int i) {
        return x.poke(b, i, 5) ? 1 : 0;
    }

    private static int trim(Watched x, int b, int n) {
        return x.trim(b, n) ? 1 : 0;
    }

    private static void checks(Supplier<Watched> state) {
        for (int b : NO_BUFFERS) {
            refused(state, "check() of " + b, -1, x -> x.check(b, 5, 0));
            refused(state, "included() of " + b, 0, x -> x.included(b, 0, 0, 1, 1) ? 1 : 0);
            refused(state, "consistent() of " + b, 0, x -> x.consistent(b, 0, 0, 1, 1) ? 1 : 0);
            refused(state, "extract() of " + b, 0, x -> x.extract(b, 1, 5, 1) ? 1 : 0);
        }
        for (int name : NO_NAMES) {
            refused(state, "check() for " + name, -1, x -> x.check(0, name, 0));
            refused(state, "extract() for " + name, 0, x -> x.extract(0, 1, name, 0) ? 1 : 0);
        }
        for (int n : NO_EPOCHS) {
            refused(state, "included() in " + n, 0, x -> x.included(0, 0, n, 1, 1) ? 1 : 0);
            refused(state, "consistent() with " + n, 0, x -> x.consistent(0, 0, n, 1, 1) ? 1 : 0);
        }
        for (int b = 0; b < 4; b++) {
            int buffer = b;
            refused(state, "check() not accepted", -1, x -> x.check(buffer, 5, -5));
            refused(state, "included() not", 0, x -> x.included(buffer, 0, 0, 1, -5) ? 1 : 0);
            refused(state, "consistent() not", 0, x -> x.consistent(buffer, 1, 2, 1, -5) ? 1 : 0);
            refused(state, "extract() not", 0, x -> x.extract(buffer, buffer, 5, 1) ? 1 : 0);
        }
    }

    private static void refusedWhileItRuns(Supplier<Watched> state) {
        for (int name : NO_NAMES) {
            refused(state, "put() of name " + name, -1, x -> x.put(name, 1));
        }
        for (int key : new int[] {MIN, -1, 0, 1000001, MAX}) {
            refused(state, "put() of key " + key, -1, x -> x.put(9, key));
            refused(state, "put() of key " + key, -1, x -> x.put(3, key));
        }
        for (int k : new int[] {MIN, -1, 0, 101, MAX}) {
            refused(state, "fuse(" + k + ")", 0, x -> x.fuse(k) ? 1 : 0);
        }
        refused(state, "restart()", -1, Watched::restart);
    }

    private static void refusedProofs() {
        Supplier<Watched> state = RefusedCallsTest::running;
        for (int kind = 0; kind <= 2; kind++) {
            int proof = kind;
            for (int b : NO_BUFFERS) {
                refused(state, "prove() into " + b, -1, x -> x.prove(b, proof, 0, 1));
            }
            for (int e : new int[] {MIN, -1, 3, 40, MAX}) {
                refused(state, "prove() up to " + e, -1, x -> x.prove(0, proof, 0, e));
            }
        }
        for (int kind : new int[] {MIN, -1, 3, MAX}) {
            refused(state, "prove() of kind " + kind, -1, x -> x.prove(0, kind, 0, 1));
        }
        for (int name : NO_NAMES) {
            refused(state, "prove() of name " + name, -1, x -> x.prove(0, 0, name, 1));
        }
        for (int kind = 1; kind <= 2; kind++) {
            int proof = kind;
            for (int e : new int[] {MIN, -1, 2, 3, MAX}) {
                refused(state, "prove() from " + e, -1, x -> x.prove(0, proof, e, 1));
            }
        }
    }

    private static void refusedWhenStopped(Supplier<Watched> state) {
        refused(state, "put() when stopped", -9, x -> x.put(5, 1));
        refused(state, "wrong put() when stopped", -9, x -> x.put(64, 1));
        refused(state, "close() when stopped", -9, Watched::close);
        refused(state, "fuse(1) when stopped", 0, x -> x.fuse(1) ? 1 : 0);
        refused(state, "fuse(3) when stopped", 0, x -> x.fuse(3) ? 1 : 0);
        refused(state, "fuse(0) when stopped", 0, x -> x.fuse(0) ? 1 : 0);
        for (int kind = 0; kind <= 2; kind++) {
            int proof = kind;
            refused(state, "prove() when stopped", -9, x -> x.prove(0, proof, 0, 1));
            refused(state, "wrong prove() when stopped", -9, x -> x.prove(4, proof, 0, 1));
        }
    }

    private static void refusedWithFortyEpochs() {
        refused(RefusedCallsTest::fortyEpochs, "the 41st close()", -2, Watched::close);
        refused(() -> Made.epochs(16, 40), "the 41st close()", -2, Watched::close);
    }

    private static void refusedForBlocks() {
        refused(RefusedCallsTest::fullOfBlocks, "close() with 301 blocks", -2, Watched::close);
    }

    private static void auditorThatHasSeenNone() {
        for (int n : NO_EPOCHS) {
            refused(RefusedCallsTest::newOne, "follow() of " + n, 0, x -> x.follow(0, n, 9) ? 1 : 0);
        }
    }

    private static void auditorThatHasSeen() {
        Supplier<Watched> state = RefusedCallsTest::running;
        for (int n : new int[] {MIN, -1, 0, 40, MAX}) {
            refused(state, "follow() of " + n, 0, x -> x.follow(1, n, x.head(2)) ? 1 : 0);
        }
        for (int b : NO_BUFFERS) {
            refused(state, "follow() by " + b, 0, x -> x.follow(b, 1, x.head(1)) ? 1 : 0);
        }
        refused(state, "another head", 0, x -> x.follow(1, 2, x.head(2) ^ 1) ? 1 : 0);
        refused(state, "another proof", 0, x -> x.follow(3, 2, x.head(2)) ? 1 : 0);
    }
}
