/** Promises 11 to 19: proofs, their words, who checks them, and the auditor. */
public final class ProofsTest {
    public static void main(String[] args) {
        lookupWords();
        lookupInAnEmptyMap();
        deepestLookup();
        historyWords();
        refusedProofs();
        word();
        poke();
        trim();
        check();
        checkRefusesWrongForms();
        checkTakesAnyOtherDigests();
        checkOfEveryName();
        everyInclusionAndConsistency();
        includedRefuses();
        consistentRefuses();
        checkersKnowNothingOfTheDirectory();
        follow();
        auditorFollowsAllEpochs();
        Due.end();
    }

    /** Indices: 5 is 000100, 9 is 011000, 7 is 001110, 1 is 110000. */
    private static Watched threeNames() {
        Watched x = new Watched(31);
        x.put(5, 101);
        x.put(9, 200);
        x.close();
        x.put(7, 300);
        x.close();
        return x;
    }

    private static void lookupWords() {
        Watched x = threeNames();
        int five = x.hash(1, 5, 101);
        int nine = x.hash(1, 9, 200);
        int seven = x.hash(1, 7, 300);
        Due.due("prove(0, 0, 5, 0)", x.prove(0, 0, 5, 0), 101);
        Due.words("lookup of 5 in 0", x, 0, 2, 5, 101, 0, nine);
        Due.due("prove(0, 0, 7, 0)", x.prove(0, 0, 7, 0), 0);
        Due.words("lookup of 7 in 0", x, 0, 2, 5, 101, 0, nine);
        Due.due("prove(1, 0, 7, 1)", x.prove(1, 0, 7, 1), 300);
        Due.words("lookup of 7 in 1", x, 1, 3, 7, 300, 0, nine, five);
        Due.due("prove(2, 0, 9, 1)", x.prove(2, 0, 9, 1), 200);
        Due.words("lookup of 9 in 1", x, 2, 2, 9, 200, 0, x.hash(2, five, seven));
        Due.due("prove(3, 0, 1, 1)", x.prove(3, 0, 1, 1), 0);
        int zeroPart = x.hash(2, x.hash(2, five, seven), nine);
        Due.words("lookup of 1 in 1", x, 3, 1, -1, 0, zeroPart);
        Due.words("the other buffer is as it was", x, 0, 2, 5, 101, 0, nine);
    }

    private static void lookupInAnEmptyMap() {
        Watched x = new Watched(31);
        x.close();
        Due.due("prove() in an empty map", x.prove(0, 0, 5, 0), 0);
        Due.words("it", x, 0, 0, -1, 0);
        Due.due("no block is read", x.size(5), 0);
        Due.due("it is accepted", x.check(0, 5, x.root(0)), 0);
        x.put(9, 8);
        x.close();
        Due.due("prove() of another name", x.prove(0, 0, 5, 1), 0);
        Due.words("it", x, 0, 0, 9, 8);
        Due.due("a block is read", x.size(5), 1);
        Due.due("it is accepted", x.check(0, 5, x.root(1)), 0);
    }

    /** Names 17 and 62 have the indices 0 and 1. */
    private static void deepestLookup() {
        Watched x = new Watched(31);
        x.put(17, 1);
        x.put(62, 2);
        x.close();
        Due.due("prove(0, 0, 62, 0)", x.prove(0, 0, 62, 0), 2);
        Due.words("it", x, 0, 6, 62, 2, 0, 0, 0, 0, 0, x.hash(1, 17, 1));
        Due.due("blocks read", x.size(5), 7);
        Due.due("words written", x.size(4), 9);
        Due.due("check()", x.check(0, 62, x.root(0)), 2);
        Due.due("check() of another name", x.check(0, 17, x.root(0)), -1);
    }

    private static void historyWords() {
        Watched x = new Watched(31);
        int[] l = new int[7];
        for (int e = 0; e < 7; e++) {
            x.put(e, 10 + e);
            x.close();
            l[e] = x.hash(3, x.root(e), e);
        }
        int l01 = x.hash(4, l[0], l[1]);
        int l23 = x.hash(4, l[2], l[3]);
        int l45 = x.hash(4, l[4], l[5]);
        int l0to3 = x.hash(4, l01, l23);
        Due.due("inclusion of 2 in 6", x.prove(0, 1, 2, 6), 3);
        Due.words("it", x, 0, l[3], l01, x.hash(4, l45, l[6]));
        Due.due("inclusion of 6 in 6", x.prove(0, 1, 6, 6), 2);
        Due.words("it", x, 0, l45, l0to3);
        Due.due("inclusion of 0 in 0", x.prove(0, 1, 0, 0), 0);
        Due.words("it", x, 0);
        Due.due("consistency of 2 with 6", x.prove(1, 2, 2, 6), 4);
        Due.words("it", x, 1, l[2], l[3], l01, x.hash(4, l45, l[6]));
        Due.due("consistency of 5 with 6", x.prove(1, 2, 5, 6), 3);
        Due.words("it", x, 1, l45, l[6], l0to3);
        Due.due("consistency of 3 with 6", x.prove(1, 2, 3, 6), 1);
        Due.words("it", x, 1, x.hash(4, l45, l[6]));
        Due.due("consistency of 0 with 6", x.prove(1, 2, 0, 6), 3);
        Due.words("it", x, 1, l[1], l23, x.hash(4, l45, l[6]));
        Due.due("consistency of 4 with 6", x.prove(1, 2, 4, 6), 4);
        Due.words("it", x, 1, l[4], l[5], l[6], l0to3);
        Due.due("consistency of 6 with 6", x.prove(1, 2, 6, 6), 0);
        Due.words("it", x, 1);
    }

    private static void refusedProofs() {
        Watched x = threeNames();
        x.prove(0, 0, 5, 0);
        int[][] wrong = {
            {-1, 0, 5, 0}, {4, 0, 5, 0}, {0, -1, 0, 0}, {0, 3, 0, 0}, {0, 0, -1, 0}, {0, 0, 64, 0},
            {0, 0, 5, -1}, {0, 0, 5, 2}, {0, 1, -1, 1}, {0, 1, 0, 2}, {0, 1, 1, 0}, {0, 2, -1, 1},
            {0, 2, 0, 2}, {0, 2, 1, 0}, {0, 1, 2, 2}, {0, 2, Integer.MIN_VALUE, 1},
            {0, 0, 5, Integer.MAX_VALUE}, {Integer.MAX_VALUE, 1, 0, 1},
        };
        for (int[] w : wrong) {
            String call = "prove(" + w[0] + ", " + w[1] + ", " + w[2] + ", " + w[3] + ")";
            Due.due(call, x.prove(w[0], w[1], w[2], w[3]), -1);
        }
        Due.words("refused proofs change nothing", x, 0, 2, 5, 101, 0, x.hash(1, 9, 200));
        Due.due("words written last", x.size(4), 5);
        Due.due("blocks read", x.size(5), 3);
        x.fuse(1);
        x.close();
        Due.due("prove() when stopped", x.prove(0, 2, 0, 0), -9);
        Due.words("changes nothing", x, 0, 2, 5, 101, 0, x.hash(1, 9, 200));
    }

    private static void word() {
        Watched x = new Watched(31);
        Due.fill(x, 3, 7, -2, 0);
        Due.words("a buffer", x, 3, 7, -2, 0);
        Due.due("word(3, 3)", x.word(3, 3), -2);
        Due.due("word(3, -2)", x.word(3, -2), -2);
        Due.due("word(3, 30)", x.word(3, 30), -2);
        Due.due("word(3, MAX)", x.word(3, Integer.MAX_VALUE), -2);
        Due.due("word(-1, -1)", x.word(-1, -1), -2);
        Due.due("word(4, -1)", x.word(4, -1), -2);
        Due.due("word(4, 0)", x.word(4, 0), -2);
    }

    private static void poke() {
        Watched x = new Watched(31);
        Due.due("poke(0, 1, 5) of an empty buffer", x.poke(0, 1, 5), false);
        Due.due("poke(0, -1, 5)", x.poke(0, -1, 5), false);
        for (int i = 0; i < 30; i++) {
            Due.due("poke(0, " + i + ")", x.poke(0, i, 100 + i), true);
        }
        Due.due("how many", x.word(0, -1), 30);
        Due.due("poke(0, 30, 1)", x.poke(0, 30, 1), false);
        Due.due("poke(0, 31, 1)", x.poke(0, 31, 1), false);
        Due.due("poke(0, 29, 1)", x.poke(0, 29, 1), true);
        Due.due("poke(0, 3, -4)", x.poke(0, 3, -4), true);
        Due.due("how many", x.word(0, -1), 30);
        Due.due("word(0, 29)", x.word(0, 29), 1);
        Due.due("word(0, 3)", x.word(0, 3), -4);
        Due.due("word(0, 4)", x.word(0, 4), 104);
        Due.due("poke(-1, 0, 1)", x.poke(-1, 0, 1), false);
        Due.due("poke(4, 0, 1)", x.poke(4, 0, 1), false);
        Due.words("the next buffer", x, 1);
        x.put(1, 1);
        x.fuse(1);
        x.close();
        Due.due("poke() when stopped", x.poke(1, 0, 6), true);
        Due.words("it", x, 1, 6);
    }

    private static void trim() {
        Watched x = new Watched(31);
        Due.due("trim(0, 0) of an empty buffer", x.trim(0, 0), true);
        Due.due("trim(0, 1) of an empty buffer", x.trim(0, 1), false);
        Due.fill(x, 0, 1, 2, 3, 4);
        Due.due("trim(0, 4)", x.trim(0, 4), true);
        Due.words("all kept", x, 0, 1, 2, 3, 4);
        Due.due("trim(0, 5)", x.trim(0, 5), false);
        Due.due("trim(0, -1)", x.trim(0, -1), false);
        Due.words("nothing changed", x, 0, 1, 2, 3, 4);
        Due.due("trim(0, 2)", x.trim(0, 2), true);
        Due.words("two kept", x, 0, 1, 2);
        Due.due("trim(0, 3)", x.trim(0, 3), false);
        Due.due("poke(0, 3, 1)", x.poke(0, 3, 1), false);
        Due.due("trim(-1, 0)", x.trim(-1, 0), false);
        Due.due("trim(4, 0)", x.trim(4, 0), false);
    }

    private static void check() {
        Watched x = threeNames();
        int root = x.root(1);
        x.prove(0, 0, 5, 1);
        Due.due("check()", x.check(0, 5, root), 101);
        Due.due("check() against another root", x.check(0, 5, x.root(0)), -1);
        Due.due("check() of a name under the leaf", x.check(0, 12, root), 0);
        Due.due("check() of a name elsewhere", x.check(0, 9, root), -1);
        Due.due("check(-1)", x.check(-1, 5, root), -1);
        Due.due("check(4)", x.check(4, 5, root), -1);
        Due.due("check() of name -1", x.check(0, -1, root), -1);
        Due.due("check() of name 64", x.check(0, 64, root), -1);
        Due.due("check() of an empty buffer", x.check(1, 5, root), -1);
        x.prove(1, 0, 1, 1);
        Due.due("check() of nothing", x.check(1, 1, root), 0);
        Due.due("check() of nothing on the other side", x.check(1, 5, root), -1);
        x.fuse(1);
        x.close();
        Due.due("check() when stopped", x.check(0, 5, root), 101);
        for (int i = 0; i < 6; i++) {
            int word = x.word(0, i);
            x.poke(0, i, word + 1);
            Due.due("check() with word " + i + " changed", x.check(0, 5, root), -1);
            x.poke(0, i, word);
        }
        x.poke(0, 6, 0);
        Due.due("check() with a word more", x.check(0, 5, root), -1);
        x.trim(0, 5);
        Due.due("check() with a word less", x.check(0, 5, root), -1);
    }

    private static void checkRefusesWrongForms() {
        Watched x = new Watched(31);
        int leaf = x.hash(1, 5, 100);
        Due.fill(x, 0, 0, 5, 100);
        Due.due("a leaf alone", x.check(0, 5, leaf), 100);
        Due.fill(x, 0, 0, 5, 0);
        Due.due("key 0", x.check(0, 5, x.hash(1, 5, 0)), -1);
        Due.fill(x, 0, 0, 5, 1000001);
        Due.due("key 1000001", x.check(0, 5, x.hash(1, 5, 1000001)), -1);
        Due.fill(x, 0, 0, 5, 1000000);
        Due.due("key 1000000", x.check(0, 5, x.hash(1, 5, 1000000)), 1000000);
        Due.fill(x, 0, 0, 64, 1);
        Due.due("name 64", x.check(0, 0, x.hash(1, 64, 1)), -1);
        Due.fill(x, 0, 0, -2, 1);
        Due.due("name -2", x.check(0, 5, x.hash(1, -2, 1)), -1);
        Due.fill(x, 0, 0, -1, 1);
        Due.due("no name with a key, as a leaf", x.check(0, 5, x.hash(1, -1, 1)), -1);
        Due.due("no name with a key, as nothing", x.check(0, 5, 0), -1);
        Due.fill(x, 0, 0, -1, 0);
        Due.due("nothing", x.check(0, 5, 0), 0);
        Due.due("nothing against 1", x.check(0, 5, 1), -1);
        Due.fill(x, 0, -1, 5);
        Due.due("d is -1 with two words", x.check(0, 5, leaf), -1);
        Due.fill(x, 0, 0, 5);
        Due.due("two words", x.check(0, 5, leaf), -1);
        Due.fill(x, 0, 0);
        Due.due("one word", x.check(0, 5, leaf), -1);
        int digest = leaf;
        Due.fill(x, 0, 7, 5, 100, 0, 0, 0, 0, 0, 0, 0);
        for (int i = 0; i < 7; i++) {
            digest = x.hash(2, digest, 0);
        }
        Due.due("d is 7", x.check(0, 5, digest), -1);
        Due.fill(x, 0, Integer.MAX_VALUE, 5, 100);
        Due.due("d is MAX", x.check(0, 5, leaf), -1);
        Due.fill(x, 0, Integer.MIN_VALUE, 5, 100);
        Due.due("d is MIN", x.check(0, 5, leaf), -1);
    }

    /** Names 17 and 62 have the indices 0 and 1: at depth 6 they no longer share a prefix. */
    private static void checkTakesAnyOtherDigests() {
        Watched x = new Watched(31);
        int digest = x.hash(1, 17, 9);
        int[] others = {Integer.MIN_VALUE, -1, 0, 5, 6};
        Due.fill(x, 0, 5, 17, 9, others[0], others[1], others[2], others[3], others[4]);
        for (int i = 4; i >= 0; i--) {
            digest = x.hash(2, digest, others[i]);
        }
        Due.due("check() of 17", x.check(0, 17, digest), 9);
        Due.due("check() of 62", x.check(0, 62, digest), 0);
        digest = x.hash(2, x.hash(1, 17, 9), 77);
        for (int i = 4; i >= 0; i--) {
            digest = x.hash(2, digest, others[i]);
        }
        x.poke(0, 0, 6);
        x.poke(0, 8, 77);
        Due.due("check() of 17, deeper", x.check(0, 17, digest), 9);
        Due.due("check() of 62, deeper", x.check(0, 62, digest), -1);
        int wrongSide = x.hash(2, 77, x.hash(1, 17, 9));
        for (int i = 4; i >= 0; i--) {
            wrongSide = x.hash(2, wrongSide, others[i]);
        }
        Due.due("the leaf itself must lie on the way", x.check(0, 62, wrongSide), -1);
    }

    private static void checkOfEveryName() {
        Watched x = new Watched(31);
        for (int name = 0; name < 64; name += 3) {
            x.put(name, name + 1);
        }
        x.close();
        for (int name = 0; name < 64; name++) {
            int says = name % 3 == 0 ? name + 1 : 0;
            Due.due("prove() of " + name, x.prove(0, 0, name, 0), says);
            Due.due("check() of " + name, x.check(0, name, x.root(0)), says);
        }
    }

    private static Watched fortyEpochs() {
        Watched x = new Watched(31);
        for (int e = 0; e < 40; e++) {
            x.put(5, e + 1);
            x.close();
        }
        return x;
    }

    private static void everyInclusionAndConsistency() {
        for (int n = 0; n < 40; n++) {
            for (int e = 0; e <= n; e++) {
                inclusionAndConsistency(fortyEpochs(), e, n);
            }
        }
    }

    private static void inclusionAndConsistency(Watched x, int e, int n) {
        String of = "(" + e + ", " + n + ")";
        int root = x.root(e);
        int old = x.head(e);
        int head = x.head(n);
        int words = x.prove(0, 1, e, n);
        Due.due("included" + of, x.included(0, e, n, root, head), true);
        for (int i = 0; i < words; i++) {
            x.poke(0, i, x.word(0, i) ^ 1);
            Due.due("changed" + of, x.included(0, e, n, root, head), false);
            x.poke(0, i, x.word(0, i) ^ 1);
        }
        words = x.prove(1, 2, e, n);
        Due.due("consistent" + of, x.consistent(1, e, n, old, head), true);
        for (int i = 0; i < words; i++) {
            x.poke(1, i, x.word(1, i) ^ 1);
            Due.due("changed" + of, x.consistent(1, e, n, old, head), false);
            x.poke(1, i, x.word(1, i) ^ 1);
        }
    }

    private static void includedRefuses() {
        Watched x = fortyEpochs();
        x.prove(0, 1, 10, 20);
        int root = x.root(10);
        int head = x.head(20);
        Due.due("included()", x.included(0, 10, 20, root, head), true);
        Due.due("another root", x.included(0, 10, 20, root + 1, head), false);
        Due.due("another head", x.included(0, 10, 20, root, head + 1), false);
        Due.due("another epoch", x.included(0, 11, 20, root, head), false);
        Due.due("a row with fewer parts", x.included(0, 10, 15, root, head), false);
        Due.due("a row of the same parts", x.included(0, 10, 21, root, head), true);
        Due.due("no buffer -1", x.included(-1, 10, 20, root, head), false);
        Due.due("no buffer 4", x.included(4, 10, 20, root, head), false);
        Due.due("an empty buffer", x.included(3, 10, 20, root, head), false);
        x.poke(0, x.word(0, -1), 0);
        Due.due("a word more", x.included(0, 10, 20, root, head), false);
        x.trim(0, x.word(0, -1) - 2);
        Due.due("a word less", x.included(0, 10, 20, root, head), false);
        x.trim(0, 0);
        Due.due("one leaf", x.included(0, 0, 0, 7, x.hash(3, 7, 0)), true);
        Due.due("e is -1", x.included(0, -1, -1, 7, x.hash(3, 7, -1)), false);
        Due.due("e is -1 and n 0", x.included(0, -1, 0, 7, x.hash(3, 7, -1)), false);
        Due.due("e above n", x.included(0, 1, 0, 7, x.hash(3, 7, 1)), false);
        for (int n = 38; n <= 42; n++) {
            tryLastOf(x, n);
        }
        Due.due("n is MAX", x.included(0, 0, Integer.MAX_VALUE, 7, 7), false);
        Due.due("e is MIN", x.included(0, Integer.MIN_VALUE, 5, 7, 7), false);
    }

    /** The last leaf of a row of 39 to 43, with a proof made by hand: from 40 on it is refused. */
    private static void tryLastOf(Watched x, int n) {
        int made = x.hash(3, 7, n);
        x.trim(0, 0);
        int length = Integer.bitCount(n);
        for (int i = 0; i < length; i++) {
            x.poke(0, i, 50 + i);
            made = x.hash(4, 50 + i, made);
        }
        Due.due("the last leaf of " + n, x.included(0, n, n, 7, made), n < 40);
    }

    private static void consistentRefuses() {
        Watched x = fortyEpochs();
        x.prove(0, 2, 10, 20);
        int old = x.head(10);
        int head = x.head(20);
        Due.due("consistent()", x.consistent(0, 10, 20, old, head), true);
        Due.due("another old head", x.consistent(0, 10, 20, old + 1, head), false);
        Due.due("another head", x.consistent(0, 10, 20, old, head + 1), false);
        Due.due("another old epoch", x.consistent(0, 12, 20, old, head), false);
        Due.due("a row with fewer parts", x.consistent(0, 10, 15, old, head), false);
        Due.due("a row of the same parts", x.consistent(0, 10, 21, old, head), true);
        Due.due("no buffer -1", x.consistent(-1, 10, 20, old, head), false);
        Due.due("no buffer 4", x.consistent(4, 10, 20, old, head), false);
        x.poke(0, x.word(0, -1), 0);
        Due.due("a word more", x.consistent(0, 10, 20, old, head), false);
        x.trim(0, x.word(0, -1) - 2);
        Due.due("a word less", x.consistent(0, 10, 20, old, head), false);
        x.trim(0, 0);
        Due.due("the same epoch", x.consistent(0, 5, 5, 9, 9), true);
        Due.due("the same epoch, other heads", x.consistent(0, 5, 5, 9, 8), false);
        Due.due("39", x.consistent(0, 39, 39, -3, -3), true);
        Due.due("40", x.consistent(0, 40, 40, 9, 9), false);
        Due.due("-1", x.consistent(0, -1, -1, 9, 9), false);
        Due.due("-1 with 0", x.consistent(0, -1, 0, 9, 9), false);
        Due.due("m above n", x.consistent(0, 6, 5, 9, 9), false);
        Due.due("MAX", x.consistent(0, 0, Integer.MAX_VALUE, 9, 9), false);
        Due.due("MIN", x.consistent(0, Integer.MIN_VALUE, 0, 9, 9), false);
    }

    private static void checkersKnowNothingOfTheDirectory() {
        Watched x = fortyEpochs();
        Watched y = new Watched(31);
        x.prove(0, 1, 13, 39);
        copy(x, y, 0);
        Due.due("included()", y.included(0, 13, 39, x.root(13), x.head(39)), true);
        x.prove(1, 2, 13, 39);
        copy(x, y, 1);
        Due.due("consistent()", y.consistent(1, 13, 39, x.head(13), x.head(39)), true);
        x.prove(2, 0, 5, 17);
        copy(x, y, 2);
        Due.due("check()", y.check(2, 5, x.root(17)), 18);
        y.fuse(1);
        y.close();
        Due.due("stopped", y.size(6), 1);
        Due.due("included()", y.included(0, 13, 39, x.root(13), x.head(39)), true);
        Due.due("consistent()", y.consistent(1, 13, 39, x.head(13), x.head(39)), true);
        Due.due("follow()", y.follow(1, 13, x.head(13)), true);
        Due.due("follow()", y.follow(1, 39, x.head(39)), true);
    }

    private static void copy(Watched from, Watched to, int b) {
        for (int i = 0; i < from.word(b, -1); i++) {
            to.poke(b, i, from.word(b, i));
        }
    }

    private static void follow() {
        Watched x = new Watched(31);
        Due.due("follow() of 40", x.follow(0, 40, 1), false);
        Due.due("follow() of -1", x.follow(0, -1, 1), false);
        Due.due("it has seen none", x.seen(0), -1);
        Due.due("nor a head", x.seen(1), -1);
        Due.due("the first is believed, whatever b is", x.follow(-7, 39, 0), true);
        Due.due("seen(0)", x.seen(0), 39);
        Due.due("seen(1)", x.seen(1), 0);
        Due.due("seen(2)", x.seen(2), -1);
        Due.due("seen(-1)", x.seen(-1), -1);
        Due.due("an earlier epoch", x.follow(0, 38, 0), false);
        Due.due("no such buffer", x.follow(-7, 39, 0), false);
        Due.due("the same again", x.follow(0, 39, 0), true);
        Due.due("another head of it", x.follow(0, 39, 1), false);
        Due.due("seen(0) is as it was", x.seen(0), 39);
        Due.due("seen(1) is as it was", x.seen(1), 0);
        Due.fill(x, 0, 1);
        Due.due("with a word too many", x.follow(0, 39, 0), false);
    }

    private static void auditorFollowsAllEpochs() {
        Watched x = fortyEpochs();
        int before = 0;
        Due.due("follow() of 0", x.follow(0, 0, x.head(0)), true);
        int[] epochs = {1, 2, 3, 6, 7, 12, 20, 21, 31, 32, 39};
        for (int n : epochs) {
            x.prove(0, 2, before, n);
            Due.due("another head", x.follow(0, n, x.head(n) ^ 1), false);
            Due.due("seen(0) before", x.seen(0), before);
            Due.due("follow() of " + n, x.follow(0, n, x.head(n)), true);
            Due.due("seen(0)", x.seen(0), n);
            Due.due("seen(1)", x.seen(1), x.head(n));
            before = n;
        }
        Due.due("back to an earlier one", x.follow(0, 32, x.head(32)), false);
    }
}
