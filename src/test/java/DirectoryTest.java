/** Promises 1 to 10: what is put, closed, stored, stopped and started again. */
public final class DirectoryTest {
    public static void main(String[] args) {
        newObject();
        widths();
        hash();
        put();
        close();
        blocksAreWrittenForWhatWasPut();
        leavesMoveWithoutNewBlocks();
        everyNameKeepsItsKey();
        deepestTree();
        closeRefusesFortyFirstEpoch();
        closeRefusesTooManyBlocks();
        refusedCloseKeepsFuse();
        fuse();
        fuseAtCheckpoint();
        fuseCountsOverSeveralClosings();
        restart();
        cutBlocksAreNotTheLatest();
        roots();
        heads();
        block();
        size();
        Due.end();
    }

    private static void newObject() {
        Watched x = new Watched(16);
        for (int what = 0; what <= 6; what++) {
            Due.due("new size(" + what + ")", x.size(what), 0);
        }
        Due.due("new root(0)", x.root(0), -1);
        Due.due("new head(0)", x.head(0), -1);
        Due.due("new block(0, 0)", x.block(0, 0), -2);
        Due.due("new seen(0)", x.seen(0), -1);
        Due.due("new seen(1)", x.seen(1), -1);
        for (int b = 0; b < 4; b++) {
            Due.words("new buffer " + b, x, b);
        }
        for (int i = -1; i <= 6; i++) {
            Due.due("new clash(" + i + ")", x.clash(i), 0);
        }
        Due.due("new restart()", x.restart(), -1);
        for (int i = 0; i < 30; i++) {
            x.put(i, 1);
        }
        Due.due("a new object has no fuse", x.close(), 0);
    }

    private static void widths() {
        int[] asked = {Integer.MIN_VALUE, -1, 0, 3, 4, 5, 16, 30, 31, 32, 33, Integer.MAX_VALUE};
        int[] width = {4, 4, 4, 4, 4, 5, 16, 30, 31, 31, 31, 31};
        for (int i = 0; i < asked.length; i++) {
            Watched x = new Watched(asked[i]);
            int greatest = 0;
            for (int y = 0; y < 200; y++) {
                greatest = Math.max(greatest, x.hash(1, 2, y));
            }
            int bits = 32 - Integer.numberOfLeadingZeros(greatest);
            Due.due("bits of digests for width " + asked[i], bits, width[i]);
            for (int y = 0; y < 20; y++) {
                Due.due("hash(1, 2, " + y + ")", x.hash(1, 2, y), byLongs(width[i], 1, 2, y));
            }
        }
    }

    private static void hash() {
        Watched wide = new Watched(31);
        Due.due("hash(1, 2, 3)", wide.hash(1, 2, 3), 27959506);
        Due.due("hash(1, 5, 100)", wide.hash(1, 5, 100), 547156145);
        Due.due("hash(3, 0, 0)", wide.hash(3, 0, 0), 1231446293);
        Due.due("hash(0, 0, 0): 1 for 0", wide.hash(0, 0, 0), 1);
        Due.due("hash of negative ints", wide.hash(-1, -2, -3), byLongs(31, -1, -2, -3));
        Watched narrow = new Watched(4);
        Due.due("narrow hash(1, 3, 7)", narrow.hash(1, 3, 7), 6);
        Due.due("narrow hash(1, 3, 11)", narrow.hash(1, 3, 11), 5);
        for (int y = 0; y < 300; y++) {
            int t = y * 7919;
            Due.due("narrow hash " + y, narrow.hash(t, -y, y), byLongs(4, t, -y, y));
            Due.due("wide hash " + y, wide.hash(t, -y, y), byLongs(31, t, -y, y));
        }
    }

    /** The function of the document in longs, cut to 32 bits after each step. */
    private static int byLongs(int w, long t, long x, long y) {
        long cut = 0xFFFFFFFFL;
        long m = 73244475L;
        long a = t * m + x & cut;
        a = (a ^ a >> 16) * m + y & cut;
        a = (a ^ a >> 16) * m & cut;
        a = a ^ a >> 16;
        long digest = a >> 32 - w;
        return digest == 0 ? 1 : (int) digest;
    }

    private static void put() {
        Watched x = new Watched(16);
        Due.due("put(0, 1)", x.put(0, 1), 1);
        Due.due("put(63, 1000000)", x.put(63, 1000000), 2);
        Due.due("put(0, 2): the same name", x.put(0, 2), 2);
        Due.due("put(-1, 1)", x.put(-1, 1), -1);
        Due.due("put(64, 1)", x.put(64, 1), -1);
        Due.due("put(1, 0)", x.put(1, 0), -1);
        Due.due("put(1, -5)", x.put(1, -5), -1);
        Due.due("put(1, 1000001)", x.put(1, 1000001), -1);
        Due.due("refused puts change nothing", x.size(2), 2);
        Due.due("close()", x.close(), 0);
        Due.due("closing empties what was put", x.size(2), 0);
        Due.due("the later key counts", x.prove(0, 0, 0, 0), 2);
        Due.due("put in the next epoch", x.put(63, 5), 1);
        Due.due("what is put shows only when closed", x.prove(0, 0, 63, 0), 1000000);
        x.fuse(1);
        x.close();
        Due.due("put when stopped", x.put(1, 1), -9);
        Due.due("wrong put when stopped", x.put(64, 0), -9);
    }

    private static void close() {
        Watched x = new Watched(16);
        Due.due("close() of nothing", x.close(), 0);
        Due.due("an epoch of an empty map writes a checkpoint", x.size(1), 1);
        Due.block(x, 0, 3, 0, -1);
        Due.due("root of an empty map", x.root(0), 0);
        Due.due("head of it", x.head(0), x.hash(3, 0, 0));
        Due.due("close() again", x.close(), 1);
        Due.block(x, 1, 3, 1, -1);
        x.put(5, 100);
        Due.due("close() of one name", x.close(), 2);
        Due.block(x, 2, 1, 5, 100);
        Due.block(x, 3, 3, 2, 2);
        Due.due("close() without a change", x.close(), 3);
        Due.block(x, 4, 3, 3, 2);
        Due.due("blocks", x.size(1), 5);
    }

    /** Indices: 5 is 000100, 9 is 011000, 7 is 001110, 12 is 000111. */
    private static void blocksAreWrittenForWhatWasPut() {
        Watched x = new Watched(31);
        x.put(9, 200);
        x.put(5, 101);
        x.close();
        Due.block(x, 0, 1, 5, 101);
        Due.block(x, 1, 1, 9, 200);
        Due.block(x, 2, 2, 0, 1);
        Due.block(x, 3, 2, 2, -1);
        Due.block(x, 4, 3, 0, 3);
        x.put(9, 200);
        x.close();
        Due.due("the same key again writes blocks too", x.size(1), 9);
        Due.block(x, 5, 1, 9, 200);
        Due.block(x, 6, 2, 0, 5);
        Due.block(x, 7, 2, 6, -1);
        Due.block(x, 8, 3, 1, 7);
        Due.due("but the root is the same", x.root(1), x.root(0));
    }

    private static void leavesMoveWithoutNewBlocks() {
        Watched x = new Watched(31);
        x.put(5, 101);
        x.put(9, 200);
        x.close();
        x.put(7, 300);
        x.close();
        Due.block(x, 5, 1, 7, 300);
        Due.block(x, 6, 2, 0, 5);
        Due.block(x, 7, 2, 6, 1);
        Due.block(x, 8, 2, 7, -1);
        Due.block(x, 9, 3, 1, 8);
        x.put(9, 1);
        x.close();
        Due.block(x, 10, 1, 9, 1);
        Due.block(x, 11, 2, 6, 10);
        Due.block(x, 12, 2, 11, -1);
        Due.block(x, 13, 3, 2, 12);
        Due.due("no more blocks", x.size(1), 14);
        Due.due("the first epoch is as it was", x.prove(0, 0, 7, 0), 0);
        Due.due("and its keys are", x.prove(0, 0, 9, 0), 200);
    }

    private static void everyNameKeepsItsKey() {
        Watched x = new Watched(31);
        putAll(x, 5);
        x.close();
        x.put(33, 6);
        x.close();
        x.close();
        Due.due("names in the map", x.size(3), 64);
        for (int name = 0; name < 64; name++) {
            Due.due("prove() of " + name, x.prove(0, 0, name, 2), name == 33 ? 6 : 5);
            Due.due("check() of " + name, x.check(0, name, x.root(2)), name == 33 ? 6 : 5);
        }
        Watched y = new Watched(31);
        y.put(0, 1);
        y.close();
        for (int name = 1; name < 9; name++) {
            y.put(name, name + 1);
            y.close();
            for (int known = 0; known <= name; known++) {
                Due.due("prove() of " + known, y.prove(0, 0, known, name), known + 1);
                Due.due("check() of " + known, y.check(0, known, y.root(name)), known + 1);
            }
        }
    }

    /** Names 17 and 62 have the indices 0 and 1. */
    private static void deepestTree() {
        Watched x = new Watched(31);
        x.put(62, 2);
        x.put(17, 1);
        x.close();
        Due.block(x, 0, 1, 17, 1);
        Due.block(x, 1, 1, 62, 2);
        Due.block(x, 2, 2, 0, 1);
        for (int i = 3; i < 8; i++) {
            Due.block(x, i, 2, i - 1, -1);
        }
        Due.block(x, 8, 3, 0, 7);
        int digest = x.hash(2, x.hash(1, 17, 1), x.hash(1, 62, 2));
        for (int i = 0; i < 5; i++) {
            digest = x.hash(2, digest, 0);
        }
        Due.due("root of the deepest tree", x.root(0), digest);
    }

    private static void closeRefusesFortyFirstEpoch() {
        Watched x = new Watched(16);
        for (int e = 0; e < 40; e++) {
            Due.due("close() " + e, x.close(), e);
        }
        x.put(1, 1);
        Due.due("the 41st close()", x.close(), -2);
        Due.due("it writes nothing", x.size(1), 40);
        Due.due("it keeps what was put", x.size(2), 1);
        Due.due("epochs", x.size(0), 40);
        Due.due("head(39)", x.head(39) > 0, true);
        Due.due("head(40)", x.head(40), -1);
    }

    /** All 64 names are 127 nodes: with its checkpoint an epoch of them is 128 blocks. */
    private static void closeRefusesTooManyBlocks() {
        Watched x = new Watched(16);
        putAll(x, 1);
        Due.due("close()", x.close(), 0);
        Due.due("blocks", x.size(1), 128);
        putAll(x, 2);
        Due.due("close()", x.close(), 1);
        Due.due("blocks", x.size(1), 256);
        putAll(x, 3);
        Due.due("close() with 384 blocks", x.close(), -2);
        Due.due("it writes nothing", x.size(1), 256);
        Due.due("it keeps what was put", x.size(2), 64);
        Due.due("it has not stopped", x.size(6), 0);
        x.fuse(1);
        Due.due("the fuse does not help", x.close(), -2);
        Due.due("and still has not stopped", x.size(6), 0);
        Watched y = fullTo256();
        for (int e = 2; e < 7; e++) {
            y.put(0, e);
            Due.due("close() of one name", y.close(), e);
        }
        Due.due("blocks", y.size(1), 296);
        for (int e = 7; e < 10; e++) {
            Due.due("close() of nothing", y.close(), e);
        }
        y.put(0, 9);
        Due.due("close() with 307 blocks", y.close(), -2);
        Due.due("blocks", y.size(1), 299);
    }

    private static Watched fullTo256() {
        Watched x = new Watched(16);
        putAll(x, 1);
        x.close();
        putAll(x, 2);
        x.close();
        return x;
    }

    private static void putAll(Watched x, int key) {
        for (int name = 0; name < 64; name++) {
            x.put(name, key);
        }
    }

    private static void refusedCloseKeepsFuse() {
        Watched x = fullTo256();
        for (int e = 2; e < 7; e++) {
            x.put(0, e);
            x.close();
        }
        for (int e = 7; e < 11; e++) {
            Due.due("close() up to 300 blocks", x.close(), e);
        }
        Due.due("just 300 blocks", x.size(1), 300);
        x.fuse(1);
        Due.due("close() with 301 blocks", x.close(), -2);
        Due.due("blocks", x.size(1), 300);
        Due.due("not stopped", x.size(6), 0);
        Due.due("epochs", x.size(0), 11);
        Due.block(x, 299, 3, 10, 294);
        Due.due("block(300, 0)", x.block(300, 0), -2);

        Watched y = new Watched(16);
        putAll(y, 1);
        y.fuse(100);
        Due.due("a fuse of 100 stops 128 blocks", y.close(), -9);
        Due.due("behind the 100th", y.size(1), 100);
        Due.due("restart()", y.restart(), 100);
    }

    private static void fuse() {
        Watched x = new Watched(16);
        Due.due("fuse(0)", x.fuse(0), false);
        Due.due("fuse(-1)", x.fuse(-1), false);
        Due.due("fuse(101)", x.fuse(101), false);
        Due.due("no fuse was set", x.close(), 0);
        Due.due("fuse(1)", x.fuse(1), true);
        Due.due("fuse(100) instead", x.fuse(100), true);
        Due.due("close() with a long fuse", x.close(), 1);
        Due.due("fuse(1)", x.fuse(1), true);
        Due.due("fuse(101) changes nothing", x.fuse(101), false);
        Due.due("close() stops", x.close(), -9);
        Due.due("fuse() when stopped", x.fuse(5), false);
        Due.due("restart()", x.restart(), 0);
        Due.due("the fuse is gone", x.close(), 3);
    }

    private static void fuseAtCheckpoint() {
        Watched x = new Watched(16);
        x.put(5, 100);
        x.fuse(2);
        Due.due("close() stops behind the checkpoint", x.close(), -9);
        Due.due("but the epoch is closed", x.size(0), 1);
        Due.due("blocks", x.size(1), 2);
        Due.due("names in the map", x.size(3), 1);
        Due.due("names put", x.size(2), 0);
        Due.due("stopped", x.size(6), 1);
        Due.due("root(0)", x.root(0), x.hash(1, 5, 100));
        Due.due("nothing is cut off", x.restart(), 0);
        Due.due("the key is there", x.prove(0, 0, 5, 0), 100);
        Due.due("the next epoch", x.close(), 1);
        Due.block(x, 2, 3, 1, 0);
    }

    private static void fuseCountsOverSeveralClosings() {
        Watched x = new Watched(16);
        x.put(5, 100);
        x.fuse(5);
        Due.due("close() of 2 blocks", x.close(), 0);
        Due.due("close() of 1 block", x.close(), 1);
        Due.due("refused put", x.put(5, 0), -1);
        x.put(5, 1);
        Due.due("close() stops behind the 5th block", x.close(), -9);
        Due.due("epochs", x.size(0), 3);
        Due.due("restart()", x.restart(), 0);
    }

    private static void restart() {
        Watched x = new Watched(16);
        Due.due("restart() when it runs", x.restart(), -1);
        x.put(1, 10);
        x.close();
        int root = x.root(0);
        int head = x.head(0);
        x.put(1, 11);
        x.put(2, 12);
        x.prove(2, 0, 1, 0);
        Due.due("fuse(2)", x.fuse(2), true);
        Due.due("close() stops", x.close(), -9);
        Due.due("what was put is lost by the stop", x.size(2), 0);
        Due.due("blocks, the new ones included", x.size(1), 4);
        Due.due("the new one is there", x.block(3, 0), 1);
        Due.due("epochs", x.size(0), 1);
        Due.due("names in the map", x.size(3), 1);
        Due.due("close() when stopped", x.close(), -9);
        Due.due("prove() when stopped", x.prove(0, 0, 1, 0), -9);
        Due.due("wrong prove() when stopped", x.prove(9, 9, 9, 9), -9);
        Due.due("root(0) when stopped", x.root(0), root);
        Due.due("head(0) when stopped", x.head(0), head);
        Due.due("the buffer when stopped", x.check(2, 1, root), 10);
        Due.due("restart()", x.restart(), 2);
        Due.due("blocks", x.size(1), 2);
        Due.due("block(2, 0)", x.block(2, 0), -2);
        Due.due("stopped", x.size(6), 0);
        Due.due("names put", x.size(2), 0);
        Due.due("the buffer is kept", x.check(2, 1, root), 10);
        Due.due("restart() again", x.restart(), -1);
        Due.due("close()", x.close(), 1);
        Due.due("the lost key is not in it", x.root(1), root);
        Due.due("nor the lost name", x.prove(0, 0, 2, 1), 0);
    }

    /** Indices: 5 is 000100, 7 is 001110, 9 is 011000. */
    private static void cutBlocksAreNotTheLatest() {
        Watched x = new Watched(31);
        x.put(5, 1);
        x.put(7, 2);
        x.put(9, 3);
        x.close();
        int blocks = x.size(1);
        Due.due("blocks", blocks, 7);
        x.put(5, 4);
        x.put(7, 5);
        x.fuse(4);
        x.close();
        Due.due("restart()", x.restart(), 4);
        x.put(9, 6);
        x.close();
        Due.block(x, 7, 1, 9, 6);
        Due.block(x, 8, 2, 2, 7);
        Due.block(x, 9, 2, 8, -1);
        Due.block(x, 10, 3, 1, 9);
        Due.due("the key before the stop", x.prove(0, 0, 5, 1), 1);
        x.put(12, 7);
        x.close();
        Due.due("a moved leaf has its old block", x.prove(0, 0, 5, 2), 1);
        Due.due("and another", x.prove(0, 0, 7, 2), 2);
    }

    private static void roots() {
        Watched x = new Watched(31);
        x.put(5, 101);
        x.put(9, 200);
        x.close();
        int part = x.hash(2, x.hash(1, 5, 101), x.hash(1, 9, 200));
        Due.due("root(0)", x.root(0), x.hash(2, part, 0));
        Due.due("root(0) as a number", x.root(0), 232374959);
        x.put(7, 300);
        x.close();
        int deep = x.hash(2, x.hash(1, 5, 101), x.hash(1, 7, 300));
        Due.due("root(1)", x.root(1), x.hash(2, x.hash(2, deep, x.hash(1, 9, 200)), 0));
        Due.due("root(0) stays", x.root(0), 232374959);
        Due.due("root(2)", x.root(2), -1);
        Due.due("root(-1)", x.root(-1), -1);
        Due.due("root(40)", x.root(40), -1);
    }

    private static void heads() {
        Watched x = new Watched(20);
        PlainDirectory plain = new PlainDirectory(20);
        int[] leaves = new int[40];
        for (int e = 0; e < 40 && x.size(1) <= 285; e++) {
            x.put(e, e + 1);
            Due.due("close()", x.close(), e);
            leaves[e] = plain.hash(3, x.root(e), e);
            Due.due("head(" + e + ")", x.head(e), row(plain, leaves, 0, e + 1));
        }
        Watched y = new Watched(20);
        for (int e = 0; e < 40; e++) {
            y.close();
            leaves[e] = plain.hash(3, 0, e);
            Due.due("head(" + e + ") of empty maps", y.head(e), row(plain, leaves, 0, e + 1));
        }
        Due.due("head(-1)", y.head(-1), -1);
        Due.due("head(40)", y.head(40), -1);
    }

    private static int row(PlainDirectory plain, int[] leaves, int start, int end) {
        if (end - start == 1) {
            return leaves[start];
        }
        int middle = start + Integer.highestOneBit(end - start - 1);
        return plain.hash(4, row(plain, leaves, start, middle), row(plain, leaves, middle, end));
    }

    private static void block() {
        Watched x = new Watched(16);
        x.put(3, 30);
        x.close();
        Due.block(x, 0, 1, 3, 30);
        Due.block(x, 1, 3, 0, 0);
        Due.due("block(2, 0)", x.block(2, 0), -2);
        Due.due("block(-1, 0)", x.block(-1, 0), -2);
        Due.due("block(300, 1)", x.block(300, 1), -2);
        Due.due("block(0, 3)", x.block(0, 3), -2);
        Due.due("block(0, -1)", x.block(0, -1), -2);
    }

    private static void size() {
        Watched x = new Watched(16);
        Due.due("size(-1)", x.size(-1), -1);
        Due.due("size(7)", x.size(7), -1);
        x.put(5, 1);
        x.put(9, 2);
        Due.due("names put", x.size(2), 2);
        Due.due("names in no map", x.size(3), 0);
        x.close();
        Due.due("epochs", x.size(0), 1);
        Due.due("names in the map", x.size(3), 2);
        x.put(5, 3);
        x.put(7, 4);
        Due.due("the open epoch does not count", x.size(3), 2);
        x.close();
        Due.due("names in the new map", x.size(3), 3);
        x.prove(0, 0, 5, 1);
        Due.due("words of a lookup", x.size(4), 6);
        Due.due("blocks read, the leaf included", x.size(5), 4);
        x.prove(0, 0, 9, 1);
        Due.due("words of a shorter lookup", x.size(4), 5);
        x.prove(0, 0, 1, 1);
        Due.due("name 1 is 110000: nothing there", x.size(5), 1);
        Due.due("words", x.size(4), 4);
        x.prove(0, 1, 0, 1);
        Due.due("words of an inclusion", x.size(4), 1);
        Due.due("blocks read for the latest lookup", x.size(5), 1);
        x.prove(0, 0, 64, 1);
        x.prove(0, 1, 1, 0);
        Due.due("a refused prove() changes nothing", x.size(4), 1);
        x.poke(0, 1, 7);
        Due.due("nor does poke()", x.size(4), 1);
        x.prove(0, 2, 1, 1);
        Due.due("words of a consistency", x.size(4), 0);
        Due.due("stopped", x.size(6), 0);
        x.fuse(1);
        x.close();
        Due.due("stopped", x.size(6), 1);
        Due.due("blocks read are still told", x.size(5), 1);
    }
}
