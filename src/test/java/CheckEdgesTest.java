/** Promises 15 to 19: a test for each sentence that names a boundary case. */
public final class CheckEdgesTest {
    private static final int MIN = Made.MIN;
    private static final int MAX = Made.MAX;
    private static final int WIDTH = 31;
    private static final PlainDirectory PLAIN = new PlainDirectory(WIDTH);

    public static void main(String[] args) {
        check();
        included();
        consistent();
        follow();
        seen();
        Due.end();
    }

    private static int index(int name) {
        return (37 * name + 11) % 64;
    }

    private static boolean bit(int name, int i) {
        return (index(name) & 32 >> i) != 0;
    }

    /** What a lookup of a name comes to, from the digest at its end on, with these other parts. */
    private static int join(int name, int digest, int... others) {
        int made = digest;
        for (int i = others.length - 1; i >= 0; i--) {
            boolean second = i < 6 && bit(name, i);
            made = second ? PLAIN.hash(2, others[i], made) : PLAIN.hash(2, made, others[i]);
        }
        return made;
    }

    /** A lookup with others of its own making in buffer 0; answers the root that it comes to. */
    private static int lookup(Watched x, int name, int leafName, int leafKey, int d) {
        int[] others = new int[d];
        Due.fill(x, 0, d, leafName, leafKey);
        for (int i = 0; i < d; i++) {
            others[i] = 1000 + i;
            x.poke(0, 3 + i, others[i]);
        }
        int leaf = leafName == -1 ? 0 : PLAIN.hash(1, leafName, leafKey);
        return join(name, leaf, others);
    }

    private static void check() {
        everyDepth();
        depthBelowZero();
        depthAboveSix();
        otherNumberOfWords();
        tooFewWordsForAnyDepth();
        neitherNothingNorALeaf();
        noSuchLeafName();
        noSuchLeafKey();
        firstAndLastLeaf();
        leafOffTheWay();
        nothingAndTheRootZero();
        otherRoot();
        otherDigestsOfAnyNumber();
        sidesThatTheBitsTell();
        noSuchBufferToCheck();
        noSuchNameToCheck();
        checkWhenStopped();
    }

    private static void everyDepth() {
        Due.sentence("ACCEPTED if its d is 0 .. 6 and it has 3 + d words");
        for (int name : new int[] {17, 36, 2, 51, 0, 63}) {
            for (int d = 0; d <= 6; d++) {
                Watched x = new Watched(WIDTH);
                int root = lookup(x, name, name, 8, d);
                Due.due("a leaf at " + d, x.check(0, name, root), 8);
                root = lookup(x, name, -1, 0, d);
                Due.due("nothing at " + d, x.check(0, name, root), 0);
            }
        }
    }

    private static void depthBelowZero() {
        Due.sentence("ACCEPTED if its d is 0 .. 6");
        Watched x = new Watched(WIDTH);
        int leaf = PLAIN.hash(1, 17, 8);
        for (int d : new int[] {-1, -2, -3, MIN, MIN + 1}) {
            Due.fill(x, 0, d, 17, 8);
            Due.due("d is " + d, x.check(0, 17, leaf), -1);
        }
        Due.fill(x, 0, -1, 17);
        Due.due("3 + d words with d = -1", x.check(0, 17, leaf), -1);
        Due.due("and nothing", x.check(0, 17, 0), -1);
        Due.fill(x, 0, -2);
        Due.due("3 + d words with d = -2", x.check(0, 17, leaf), -1);
        x.trim(0, 0);
        Due.due("no words", x.check(0, 17, leaf), -1);
        Due.due("no words and nothing", x.check(0, 17, 0), -1);
    }

    /** A bit behind the sixth is taken for 0 here, as a check would that does not look at d. */
    private static void depthAboveSix() {
        Due.sentence("ACCEPTED if its d is 0 .. 6");
        for (int d = 7; d <= 27; d++) {
            Watched x = new Watched(WIDTH);
            int root = lookup(x, 17, 17, 8, d);
            Due.due("d is " + d, x.check(0, 17, root), -1);
            root = lookup(x, 17, -1, 0, d);
            Due.due("nothing, and d is " + d, x.check(0, 17, root), -1);
        }
        Watched y = new Watched(WIDTH);
        for (int d : new int[] {7, 8, 27, 28, MAX - 3, MAX}) {
            int root = lookup(y, 17, 17, 8, 6);
            y.poke(0, 0, d);
            Due.due("9 words, and d is " + d, y.check(0, 17, root), -1);
        }
    }

    private static void otherNumberOfWords() {
        Due.sentence("and it has 3 + d words");
        for (int d = 0; d <= 6; d++) {
            Watched x = new Watched(WIDTH);
            int root = lookup(x, 17, 17, 8, d);
            x.poke(0, 3 + d, 0);
            Due.due("a word more than 3 + " + d, x.check(0, 17, root), -1);
            x.trim(0, 3 + d);
            Due.due("3 + " + d + " words", x.check(0, 17, root), 8);
            x.trim(0, 2 + d);
            Due.due("a word less than 3 + " + d, x.check(0, 17, root), -1);
            lookup(x, 17, 17, 8, 6);
            x.poke(0, 0, d);
            Due.due("9 words, and d is " + d, x.check(0, 17, root), d == 6 ? 8 : -1);
        }
        Watched y = new Watched(WIDTH);
        int root = lookup(y, 17, 17, 8, 6);
        for (int i = 9; i < 30; i++) {
            y.poke(0, i, 0);
            Due.due((i + 1) + " words", y.check(0, 17, root), -1);
        }
    }

    /** Words that were there before are behind the end: they are not to be looked at. */
    private static void tooFewWordsForAnyDepth() {
        Due.sentence("and it has 3 + d words");
        Watched x = new Watched(WIDTH);
        int leaf = PLAIN.hash(1, 17, 8);
        Due.fill(x, 0, 0, 17, 8);
        Due.due("three words", x.check(0, 17, leaf), 8);
        for (int n = 2; n >= 0; n--) {
            x.trim(0, n);
            Due.due(n + " words", x.check(0, 17, leaf), -1);
        }
        Due.fill(x, 0, 0, -1, 0);
        Due.due("three words", x.check(0, 17, 0), 0);
        for (int n = 2; n >= 0; n--) {
            x.trim(0, n);
            Due.due(n + " words", x.check(0, 17, 0), -1);
        }
    }

    private static void neitherNothingNorALeaf() {
        Due.sentence("its second and third words are -1 and 0, or a name and a key");
        Watched x = new Watched(WIDTH);
        for (int key : new int[] {MIN, -1, 1, 8, 1000000, MAX}) {
            Due.fill(x, 0, 0, -1, key);
            Due.due("-1 and " + key + " as nothing", x.check(0, 17, 0), -1);
            int leaf = PLAIN.hash(1, -1, key);
            Due.due("-1 and " + key + " as a leaf", x.check(0, 17, leaf), -1);
        }
        for (int name : new int[] {0, 17, 63}) {
            Due.fill(x, 0, 0, name, 0);
            Due.due(name + " and 0 as nothing", x.check(0, 17, 0), -1);
            int leaf = PLAIN.hash(1, name, 0);
            Due.due(name + " and 0 as a leaf", x.check(0, 17, leaf), -1);
        }
        Due.fill(x, 0, 0, -1, 0);
        Due.due("-1 and 0 as nothing", x.check(0, 17, 0), 0);
        Due.due("-1 and 0 as a leaf", x.check(0, 17, PLAIN.hash(1, -1, 0)), -1);
    }

    private static void noSuchLeafName() {
        Due.sentence("or a name and a key");
        Watched x = new Watched(WIDTH);
        for (int name : new int[] {MIN, -64, -2, 64, 65, 81, 128, MAX}) {
            Due.fill(x, 0, 0, name, 8);
            Due.due("name " + name, x.check(0, 17, PLAIN.hash(1, name, 8)), -1);
            Due.fill(x, 0, 0, name, 0);
            Due.due("name " + name + " and 0", x.check(0, 17, 0), -1);
        }
    }

    private static void noSuchLeafKey() {
        Due.sentence("or a name and a key");
        Watched x = new Watched(WIDTH);
        for (int key : new int[] {MIN, -1000000, -1, 0, 1000001, MAX}) {
            Due.fill(x, 0, 0, 17, key);
            Due.due("key " + key, x.check(0, 17, PLAIN.hash(1, 17, key)), -1);
            Due.due("key " + key + " of another", x.check(0, 5, PLAIN.hash(1, 17, key)), -1);
        }
    }

    private static void firstAndLastLeaf() {
        Due.sentence("NAMES are 0 .. 63, KEYS 1 .. 1000000");
        Watched x = new Watched(WIDTH);
        for (int name : new int[] {0, 63}) {
            for (int key : new int[] {1, 1000000}) {
                Due.fill(x, 0, 0, name, key);
                int leaf = PLAIN.hash(1, name, key);
                Due.due("name " + name, x.check(0, name, leaf), key);
                Due.due("another name", x.check(0, 63 - name, leaf), 0);
            }
        }
    }

    private static void leafOffTheWay() {
        Due.sentence("where the name's index has the same first d bits as that of the name asked");
        for (int asked : new int[] {17, 36, 2, 0}) {
            for (int d = 0; d <= 6; d++) {
                Watched x = new Watched(WIDTH);
                int root = lookup(x, asked, asked, 8, d);
                for (int name = 0; name < 64; name++) {
                    x.poke(0, 1, name);
                    root = leafRoot(asked, name, d);
                    boolean same = index(name) >> 6 - d == index(asked) >> 6 - d;
                    int says = name == asked ? 8 : same ? 0 : -1;
                    Due.due(name + " for " + asked + " at " + d, x.check(0, asked, root), says);
                }
            }
        }
    }

    private static int leafRoot(int asked, int name, int d) {
        int[] others = new int[d];
        for (int i = 0; i < d; i++) {
            others[i] = 1000 + i;
        }
        return join(asked, PLAIN.hash(1, name, 8), others);
    }

    private static void nothingAndTheRootZero() {
        Due.sentence("the root is what is made of the leaf's digest H(1, ..), or 0");
        Watched x = new Watched(WIDTH);
        Due.fill(x, 0, 0, -1, 0);
        for (int root : new int[] {MIN, -1, 1, 2, MAX}) {
            Due.due("nothing against " + root, x.check(0, 17, root), -1);
        }
        Due.due("nothing against 0", x.check(0, 17, 0), 0);
        Due.fill(x, 0, 0, 17, 8);
        Due.due("a leaf against 0", x.check(0, 17, 0), -1);
        Due.fill(x, 0, 1, -1, 0, 0);
        Due.due("two nothings against 0", x.check(0, 17, 0), -1);
        Due.due("two nothings", x.check(0, 17, PLAIN.hash(2, 0, 0)), 0);
    }

    private static void otherRoot() {
        Due.sentence("-1 if not");
        Watched x = new Watched(WIDTH);
        int root = lookup(x, 17, 17, 8, 3);
        Due.due("the root", x.check(0, 17, root), 8);
        for (int other : new int[] {root - 1, root + 1, -root, root ^ MIN, 0, -1, MIN, MAX}) {
            Due.due("another root", x.check(0, 17, other), -1);
        }
        for (int i = 0; i < 6; i++) {
            int word = x.word(0, i);
            x.poke(0, i, word ^ 1);
            Due.due("word " + i + " changed", x.check(0, 17, root), -1);
            x.poke(0, i, word);
        }
    }

    /** With width 4 a digest is 1 .. 15, and nothing's is 0. */
    private static void otherDigestsOfAnyNumber() {
        Due.sentence("A lookup for a name against a root is ACCEPTED if");
        PlainDirectory plain = new PlainDirectory(4);
        Watched x = new Watched(4);
        for (int other : new int[] {MIN, -1, 0, 1, 15, 16, MAX}) {
            Due.fill(x, 0, 1, 17, 8, other);
            int root = plain.hash(2, plain.hash(1, 17, 8), other);
            Due.due("other digest " + other, x.check(0, 17, root), 8);
        }
    }

    private static void sidesThatTheBitsTell() {
        Due.sentence("the last one first, on the sides that the bits tell");
        Watched x = new Watched(WIDTH);
        int leaf = PLAIN.hash(1, 2, 8);
        Due.fill(x, 0, 3, 2, 8, 11, 12, 13);
        int made = PLAIN.hash(2, leaf, 13);
        made = PLAIN.hash(2, 12, made);
        Due.due("name 2 is 010101", x.check(0, 2, PLAIN.hash(2, made, 11)), 8);
        Due.due("the other side at bit 0", x.check(0, 2, PLAIN.hash(2, 11, made)), -1);
        made = PLAIN.hash(2, PLAIN.hash(2, PLAIN.hash(2, leaf, 13), 12), 11);
        Due.due("the other side at bit 1", x.check(0, 2, made), -1);
        made = PLAIN.hash(2, 12, PLAIN.hash(2, leaf, 11));
        Due.due("the first one first", x.check(0, 2, PLAIN.hash(2, made, 13)), -1);
    }

    private static void noSuchBufferToCheck() {
        Due.sentence("-1 if .. there is no such buffer");
        Watched x = new Watched(WIDTH);
        for (int b = 0; b < 4; b++) {
            Due.fill(x, b, 0, -1, 0);
            Due.due("check(" + b + ")", x.check(b, 17, 0), 0);
        }
        for (int b : new int[] {MIN, -1, 4, 5, MAX}) {
            Due.due("check(" + b + ")", x.check(b, 17, 0), -1);
        }
    }

    private static void noSuchNameToCheck() {
        Due.sentence("-1 if .. there is no such buffer or name");
        Watched x = new Watched(WIDTH);
        Due.fill(x, 0, 0, -1, 0);
        Due.fill(x, 1, 0, 17, 8);
        int leaf = PLAIN.hash(1, 17, 8);
        for (int name : new int[] {MIN, -64, -1, 64, 81, MAX}) {
            Due.due("nothing for " + name, x.check(0, name, 0), -1);
            Due.due("a leaf for " + name, x.check(1, name, leaf), -1);
        }
        for (int name : new int[] {0, 63}) {
            Due.due("nothing for " + name, x.check(0, name, 0), 0);
            Due.due("a leaf for " + name, x.check(1, name, leaf), 0);
        }
    }

    private static void checkWhenStopped() {
        Due.sentence("(This and what follows are answered .. though the machine has stopped");
        Watched x = Made.epochs(WIDTH, 1);
        x.prove(0, 0, 5, 0);
        x.prove(1, 1, 0, 0);
        int root = x.root(0);
        int head = x.head(0);
        x.fuse(1);
        x.close();
        Due.due("check()", x.check(0, 5, root), 1);
        Due.due("included()", x.included(1, 0, 0, root, head), true);
        Due.due("consistent()", x.consistent(1, 0, 0, head, head), true);
        Due.due("follow()", x.follow(1, 0, head), true);
        Due.due("seen(1)", x.seen(1), head);
        Due.due("poke()", x.poke(1, 0, 3), true);
        Due.due("word()", x.word(1, 0), 3);
        Due.due("trim()", x.trim(1, 0), true);
    }

    private static void included() {
        oneLeaf();
        epochBelowZero();
        epochAboveTheHead();
        headOfFortyOrMore();
        lastHead();
        inclusionWithOtherWords();
        inclusionOnTheSidesOfTheParts();
        inclusionWithNoBuffer();
        inclusionOfOtherNumbers();
    }

    private static void oneLeaf() {
        Due.sentence("and that head is what is made of H(3, r, e)");
        Watched x = new Watched(WIDTH);
        for (int root : new int[] {MIN, -1, 0, 1, 7, MAX}) {
            int leaf = PLAIN.hash(3, root, 0);
            Due.due("root " + root, x.included(0, 0, 0, root, leaf), true);
            Due.due("another root", x.included(0, 0, 0, root ^ 1, leaf), false);
            Due.due("another head", x.included(0, 0, 0, root, leaf ^ 1), false);
        }
    }

    private static void epochBelowZero() {
        Due.sentence("accepted if 0 <= e <= n < 40");
        Watched x = new Watched(WIDTH);
        for (int e : new int[] {-1, -2, -40, MIN}) {
            int leaf = PLAIN.hash(3, 7, e);
            Due.due(e + " in itself", x.included(0, e, e, 7, leaf), false);
            Due.due(e + " in 0", x.included(0, e, 0, 7, leaf), false);
            Due.fill(x, 0, 11);
            Due.due(e + " in 1", x.included(0, e, 1, 7, PLAIN.hash(4, leaf, 11)), false);
            x.trim(0, 0);
        }
    }

    private static void epochAboveTheHead() {
        Due.sentence("accepted if 0 <= e <= n < 40");
        Watched x = new Watched(WIDTH);
        Due.due("1 in 0", x.included(0, 1, 0, 7, PLAIN.hash(3, 7, 1)), false);
        Due.due("39 in 0", x.included(0, 39, 0, 7, PLAIN.hash(3, 7, 39)), false);
        Due.due("MAX in 0", x.included(0, MAX, 0, 7, PLAIN.hash(3, 7, MAX)), false);
        Due.fill(x, 0, 11);
        int leaf = PLAIN.hash(3, 7, 2);
        Due.due("2 in 1", x.included(0, 2, 1, 7, PLAIN.hash(4, 11, leaf)), false);
        Due.due("2 in 1", x.included(0, 2, 1, 7, PLAIN.hash(4, leaf, 11)), false);
        Due.due("2 in 2", x.included(0, 2, 2, 7, PLAIN.hash(4, 11, leaf)), true);
    }

    /** The words of epoch 0 and of epoch n in the head of n, made by hand. */
    private static void headOfFortyOrMore() {
        Due.sentence("accepted if 0 <= e <= n < 40");
        for (int n = 36; n < 70; n++) {
            Watched x = new Watched(WIDTH);
            int words = Integer.bitCount(n);
            int made = PLAIN.hash(3, 7, n);
            for (int i = 0; i < words; i++) {
                x.poke(0, i, 50 + i);
                made = PLAIN.hash(4, 50 + i, made);
            }
            Due.due(n + " in " + n, x.included(0, n, n, 7, made), n < 40);
            words = 32 - Integer.numberOfLeadingZeros(n);
            made = PLAIN.hash(3, 7, 0);
            for (int i = 0; i < words; i++) {
                x.poke(1, i, 50 + i);
                made = PLAIN.hash(4, made, 50 + i);
            }
            Due.due("0 in " + n, x.included(1, 0, n, 7, made), n < 40);
        }
        Watched y = new Watched(WIDTH);
        Due.due("0 in MAX", y.included(0, 0, MAX, 7, PLAIN.hash(3, 7, 0)), false);
        Due.due("MAX in MAX", y.included(0, MAX, MAX, 7, PLAIN.hash(3, 7, MAX)), false);
    }

    private static void lastHead() {
        Due.sentence("accepted if 0 <= e <= n < 40");
        Watched x = Made.epochs(WIDTH, 40);
        for (int e : new int[] {0, 1, 31, 32, 38, 39}) {
            x.prove(0, 1, e, 39);
            Due.due(e + " in 39", x.included(0, e, 39, x.root(e), x.head(39)), true);
            Due.due(e + " in 40", x.included(0, e, 40, x.root(e), x.head(39)), false);
        }
    }

    private static void inclusionWithOtherWords() {
        Due.sentence("it has as many words as prove() would write for e and n");
        int[][] pairs = {{0, 0}, {0, 1}, {2, 2}, {1, 2}, {4, 4}, {0, 39}, {39, 39}, {20, 33}};
        for (int[] pair : pairs) {
            Watched x = Made.epochs(WIDTH, 40);
            int words = x.prove(0, 1, pair[0], pair[1]);
            int root = x.root(pair[0]);
            int head = x.head(pair[1]);
            String of = pair[0] + " in " + pair[1];
            Due.due(of, x.included(0, pair[0], pair[1], root, head), true);
            x.poke(0, words, 0);
            Due.due(of + ", a word more", x.included(0, pair[0], pair[1], root, head), false);
            x.trim(0, words);
            Due.due(of + ", as before", x.included(0, pair[0], pair[1], root, head), true);
            if (words > 0) {
                x.trim(0, words - 1);
                Due.due(of + ", a word less", x.included(0, pair[0], pair[1], root, head), false);
            }
            for (int i = x.word(0, -1); i < 30; i++) {
                x.poke(0, i, 0);
            }
            Due.due(of + ", 30 words", x.included(0, pair[0], pair[1], root, head), false);
        }
    }

    private static void inclusionOnTheSidesOfTheParts() {
        Due.sentence("the first one first, on the sides where the parts lie");
        Watched x = new Watched(WIDTH);
        Due.fill(x, 0, 11, 12, 13);
        int leaf = PLAIN.hash(3, 7, 2);
        int made = PLAIN.hash(4, 12, PLAIN.hash(4, leaf, 11));
        Due.due("2 in 4", x.included(0, 2, 4, 7, PLAIN.hash(4, made, 13)), true);
        Due.due("the last side", x.included(0, 2, 4, 7, PLAIN.hash(4, 13, made)), false);
        made = PLAIN.hash(4, PLAIN.hash(4, leaf, 11), 12);
        Due.due("the middle side", x.included(0, 2, 4, 7, PLAIN.hash(4, made, 13)), false);
        made = PLAIN.hash(4, 12, PLAIN.hash(4, 11, leaf));
        Due.due("the first side", x.included(0, 2, 4, 7, PLAIN.hash(4, made, 13)), false);
        made = PLAIN.hash(4, 12, PLAIN.hash(4, leaf, 13));
        Due.due("the last one first", x.included(0, 2, 4, 7, PLAIN.hash(4, made, 11)), false);
        made = PLAIN.hash(4, 12, PLAIN.hash(4, PLAIN.hash(3, 7, 3), 11));
        Due.due("another leaf", x.included(0, 2, 4, 7, PLAIN.hash(4, made, 13)), false);
    }

    private static void inclusionWithNoBuffer() {
        Due.sentence("Whether buffer b is accepted");
        Watched x = new Watched(WIDTH);
        int leaf = PLAIN.hash(3, 7, 0);
        for (int b : new int[] {MIN, -1, 4, 5, MAX}) {
            Due.due("included(" + b + ")", x.included(b, 0, 0, 7, leaf), false);
        }
        for (int b = 0; b < 4; b++) {
            Due.due("included(" + b + ")", x.included(b, 0, 0, 7, leaf), true);
        }
    }

    private static void inclusionOfOtherNumbers() {
        Due.sentence("WHO CHECKS knows nothing of the directory");
        Watched x = new Watched(WIDTH);
        for (int word : new int[] {MIN, -1, 0, MAX}) {
            Due.fill(x, 0, word);
            int head = PLAIN.hash(4, PLAIN.hash(3, word, 0), word);
            Due.due("word and root " + word, x.included(0, 0, 1, word, head), true);
        }
    }

    private static void consistent() {
        sameEpoch();
        oldEpochBelowZero();
        oldEpochAboveTheNew();
        consistencyWithFortyOrMore();
        consistencyWithOtherWords();
        consistencyFromTheOldHeadItself();
        consistencyFromTheFirstWord();
        consistencyOnTheSidesOfTheParts();
        consistencyWithNoBuffer();
    }

    private static void sameEpoch() {
        Due.sentence("or of the old head itself if its row begins with leaf 0");
        Watched x = new Watched(WIDTH);
        for (int n : new int[] {0, 1, 2, 31, 38, 39}) {
            for (int head : new int[] {MIN, -1, 0, 1, MAX}) {
                Due.due(n + " with itself", x.consistent(0, n, n, head, head), true);
                Due.due("another head", x.consistent(0, n, n, head, head ^ 1), false);
            }
            Due.fill(x, 1, 9);
            Due.due("with a word", x.consistent(1, n, n, 9, 9), false);
        }
    }

    private static void oldEpochBelowZero() {
        Due.sentence("accepted if 0 <= m <= n < 40");
        Watched x = new Watched(WIDTH);
        Due.fill(x, 1, 11);
        int head = PLAIN.hash(4, 9, 11);
        for (int m : new int[] {-1, -2, -40, MIN}) {
            Due.due(m + " with itself", x.consistent(0, m, m, 9, 9), false);
            Due.due(m + " with 0", x.consistent(0, m, 0, 9, 9), false);
            Due.due(m + " with 1", x.consistent(1, m, 1, 9, head), false);
        }
        Due.due("0 with 1", x.consistent(1, 0, 1, 9, head), true);
    }

    private static void oldEpochAboveTheNew() {
        Due.sentence("accepted if 0 <= m <= n < 40");
        Watched x = new Watched(WIDTH);
        Due.fill(x, 1, 11);
        for (int m : new int[] {1, 2, 6, 39, 40, MAX}) {
            Due.due(m + " with 0", x.consistent(0, m, 0, 9, 9), false);
            Due.due(m + " with 0", x.consistent(1, m, 0, 9, PLAIN.hash(4, 9, 11)), false);
        }
        Due.due("6 with 5", x.consistent(0, 6, 5, 9, 9), false);
        Due.due("39 with 38", x.consistent(0, 39, 38, 9, 9), false);
    }

    /** By hand: 31 with n has a word, for the leaves from 32 on, and 39 with n up to 47 has three. */
    private static void consistencyWithFortyOrMore() {
        Due.sentence("accepted if 0 <= m <= n < 40");
        Watched x = new Watched(WIDTH);
        Due.fill(x, 0, 11);
        Due.fill(x, 1, 11, 12, 13);
        int old = PLAIN.hash(4, 13, 11);
        int head = PLAIN.hash(4, 13, PLAIN.hash(4, 11, 12));
        for (int n = 32; n < 64; n++) {
            boolean due = n < 40;
            Due.due("31 with " + n, x.consistent(0, 31, n, 9, PLAIN.hash(4, 9, 11)), due);
            if (n > 39 && n < 48) {
                Due.due("39 with " + n, x.consistent(1, 39, n, old, head), false);
            }
            Due.due(n + " with itself", x.consistent(2, n, n, 9, 9), due);
        }
        Due.due("35 with 39", x.consistent(1, 35, 39, old, head), true);
        Due.due("0 with MAX", x.consistent(0, 0, MAX, 9, PLAIN.hash(4, 9, 11)), false);
        Due.due("MAX with MAX", x.consistent(2, MAX, MAX, 9, 9), false);
    }

    private static void consistencyWithOtherWords() {
        Due.sentence("it has as many words as prove() would write for m and n");
        int[][] pairs = {{0, 0}, {0, 1}, {2, 3}, {1, 2}, {3, 4}, {0, 39}, {38, 39}, {20, 33}};
        for (int[] pair : pairs) {
            Watched x = Made.epochs(WIDTH, 40);
            int m = pair[0];
            int n = pair[1];
            int words = x.prove(0, 2, m, n);
            int old = x.head(m);
            int head = x.head(n);
            String of = m + " with " + n;
            Due.due(of, x.consistent(0, m, n, old, head), true);
            x.poke(0, words, 0);
            Due.due(of + ", a word more", x.consistent(0, m, n, old, head), false);
            x.trim(0, words);
            Due.due(of + ", as before", x.consistent(0, m, n, old, head), true);
            if (words > 0) {
                x.trim(0, words - 1);
                Due.due(of + ", a word less", x.consistent(0, m, n, old, head), false);
            }
            for (int i = x.word(0, -1); i < 30; i++) {
                x.poke(0, i, 0);
            }
            Due.due(of + ", 30 words", x.consistent(0, m, n, old, head), false);
        }
    }

    private static void consistencyFromTheOldHeadItself() {
        Due.sentence("or of the old head itself if its row begins with leaf 0");
        Watched x = new Watched(WIDTH);
        for (int m : new int[] {0, 1, 3, 7, 15, 31}) {
            for (int old : new int[] {MIN, 0, 9, MAX}) {
                Due.fill(x, 0, 11);
                int head = PLAIN.hash(4, old, 11);
                Due.due(m + " with the next", x.consistent(0, m, m + 1, old, head), true);
                Due.due("another old head", x.consistent(0, m, m + 1, old ^ 1, head), false);
                Due.fill(x, 0, old, 11);
                Due.due("with the old head", x.consistent(0, m, m + 1, old, head), false);
            }
        }
    }

    private static void consistencyFromTheFirstWord() {
        Due.sentence("the old one only by those that stand for parts before");
        Watched x = new Watched(WIDTH);
        Due.fill(x, 0, 11, 12, 13, 14);
        int old = PLAIN.hash(4, 13, 11);
        int head = PLAIN.hash(4, PLAIN.hash(4, 13, PLAIN.hash(4, 11, 12)), 14);
        for (int n = 4; n <= 7; n++) {
            Due.due("2 with " + n, x.consistent(0, 2, n, old, head), true);
            Due.due("another old head", x.consistent(0, 2, n, old ^ 1, head), false);
            Due.due("another head", x.consistent(0, 2, n, old, head ^ 1), false);
            Due.due("the first word as the old head", x.consistent(0, 2, n, 11, head), false);
            Due.due("all words for the old head", x.consistent(0, 2, n, head, head), false);
        }
        Due.due("2 with 3", x.consistent(0, 2, 3, old, head), false);
        Due.due("2 with 8", x.consistent(0, 2, 8, old, head), false);
    }

    private static void consistencyOnTheSidesOfTheParts() {
        Due.sentence("both heads are what is made, likewise");
        Watched x = new Watched(WIDTH);
        Due.fill(x, 0, 11, 12, 13);
        int old = PLAIN.hash(4, 13, 11);
        int part = PLAIN.hash(4, 11, 12);
        Due.due("2 with 3", x.consistent(0, 2, 3, old, PLAIN.hash(4, 13, part)), true);
        Due.due("other side", x.consistent(0, 2, 3, old, PLAIN.hash(4, part, 13)), false);
        part = PLAIN.hash(4, 12, 11);
        Due.due("other side", x.consistent(0, 2, 3, old, PLAIN.hash(4, 13, part)), false);
        old = PLAIN.hash(4, 11, 13);
        part = PLAIN.hash(4, 11, 12);
        Due.due("other side of old", x.consistent(0, 2, 3, old, PLAIN.hash(4, 13, part)), false);
        Due.fill(x, 0, 11, 12, 13);
        old = PLAIN.hash(4, 13, 11);
        Due.due("5 with 6", x.consistent(0, 5, 6, old, PLAIN.hash(4, 13, part)), true);
        Due.due("4 with 6", x.consistent(0, 4, 6, old, PLAIN.hash(4, 13, part)), false);
    }

    private static void consistencyWithNoBuffer() {
        Due.sentence("Whether buffer b is accepted");
        Watched x = new Watched(WIDTH);
        for (int b : new int[] {MIN, -1, 4, 5, MAX}) {
            Due.due("consistent(" + b + ")", x.consistent(b, 3, 3, 9, 9), false);
        }
        for (int b = 0; b < 4; b++) {
            Due.due("consistent(" + b + ")", x.consistent(b, 3, 3, 9, 9), true);
        }
    }

    private static void follow() {
        firstHeadOutsideOfTheEpochs();
        firstHeadAtTheEdges();
        firstHeadWithoutALookAtTheBuffer();
        laterHeadMustBeConsistent();
        laterHeadOfAnEarlierEpoch();
        laterHeadOfForty();
        laterHeadWithNoBuffer();
        falseKeepsWhatWasSeen();
    }

    private static void firstHeadOutsideOfTheEpochs() {
        Due.sentence("(If it had seen none, n must be 0 .. 39");
        for (int n : new int[] {MIN, -2, -1, 40, 41, MAX}) {
            Watched x = new Watched(WIDTH);
            Due.due("follow() of " + n, x.follow(0, n, 9), false);
            Due.due("seen(0)", x.seen(0), -1);
            Due.due("seen(1)", x.seen(1), -1);
            Due.due("it has still seen none", x.follow(0, 20, 8), true);
            Due.due("seen(0)", x.seen(0), 20);
        }
    }

    private static void firstHeadAtTheEdges() {
        Due.sentence("(If it had seen none, n must be 0 .. 39");
        for (int n : new int[] {0, 1, 38, 39}) {
            for (int head : new int[] {MIN, -1, 0, 1, MAX}) {
                Watched x = new Watched(WIDTH);
                Due.due("follow() of " + n, x.follow(0, n, head), true);
                Due.due("seen(0)", x.seen(0), n);
                Due.due("seen(1)", x.seen(1), head);
            }
        }
    }

    private static void firstHeadWithoutALookAtTheBuffer() {
        Due.sentence("and b is not looked at");
        for (int b : new int[] {MIN, -1, 0, 3, 4, MAX}) {
            Watched x = new Watched(WIDTH);
            Due.fill(x, 0, 1, 2, 3);
            Due.due("follow(" + b + ")", x.follow(b, 12, 9), true);
            Due.due("seen(0)", x.seen(0), 12);
            Due.words("the buffer", x, 0, 1, 2, 3);
        }
    }

    private static void laterHeadMustBeConsistent() {
        Due.sentence("or b is accepted as a consistency of what it had seen with this");
        Watched x = new Watched(WIDTH);
        Due.fill(x, 1, 11);
        x.follow(0, 3, 9);
        Due.due("no words", x.follow(0, 4, PLAIN.hash(4, 9, 11)), false);
        Due.due("another head", x.follow(1, 4, PLAIN.hash(4, 8, 11)), false);
        Due.due("seen(0)", x.seen(0), 3);
        Due.due("a head of it", x.follow(1, 4, PLAIN.hash(4, 9, 11)), true);
        Due.due("seen(0)", x.seen(0), 4);
        Due.due("seen(1)", x.seen(1), PLAIN.hash(4, 9, 11));
        Due.due("the same again", x.follow(0, 4, PLAIN.hash(4, 9, 11)), true);
        Due.due("the same with a word", x.follow(1, 4, PLAIN.hash(4, 9, 11)), false);
    }

    private static void laterHeadOfAnEarlierEpoch() {
        Due.sentence("accepted if 0 <= m <= n < 40");
        Watched x = new Watched(WIDTH);
        x.follow(0, 5, 9);
        for (int n : new int[] {MIN, -1, 0, 3, 4}) {
            Due.due("follow() of " + n, x.follow(0, n, 9), false);
        }
        Due.due("seen(0)", x.seen(0), 5);
        Due.due("follow() of 5", x.follow(0, 5, 9), true);
    }

    private static void laterHeadOfForty() {
        Due.sentence("accepted if 0 <= m <= n < 40");
        Watched x = new Watched(WIDTH);
        Due.fill(x, 0, 11);
        x.follow(0, 31, 9);
        int head = PLAIN.hash(4, 9, 11);
        for (int n : new int[] {40, 41, 63, MAX}) {
            Due.due("follow() of " + n, x.follow(0, n, head), false);
        }
        Due.due("seen(0)", x.seen(0), 31);
        Due.due("follow() of 39", x.follow(0, 39, head), true);
        Due.due("seen(0)", x.seen(0), 39);
    }

    private static void laterHeadWithNoBuffer() {
        Due.sentence("or b is accepted as a consistency of what it had seen with this");
        Watched x = new Watched(WIDTH);
        x.follow(0, 5, 9);
        for (int b : new int[] {MIN, -1, 4, 5, MAX}) {
            Due.due("follow(" + b + ")", x.follow(b, 5, 9), false);
        }
        for (int b = 0; b < 4; b++) {
            Due.due("follow(" + b + ")", x.follow(b, 5, 9), true);
        }
    }

    private static void falseKeepsWhatWasSeen() {
        Due.sentence("A call that is refused, or answers false, changes nothing");
        Watched x = new Watched(WIDTH);
        x.follow(0, 5, 9);
        x.follow(0, 5, 10);
        x.follow(0, 6, 9);
        x.follow(0, 40, 9);
        Due.due("seen(0)", x.seen(0), 5);
        Due.due("seen(1)", x.seen(1), 9);
        Due.due("the head again", x.follow(0, 5, 9), true);
    }

    private static void seen() {
        seenNone();
        seenOfAnyOtherNumber();
        seenHeadsOfAnyNumber();
        seenStaysOverAStop();
    }

    private static void seenNone() {
        Due.sentence("-1 when it has seen none");
        Watched x = Made.epochs(WIDTH, 3);
        for (int what : new int[] {MIN, -1, 0, 1, 2, MAX}) {
            Due.due("seen(" + what + ")", x.seen(what), -1);
        }
        x.prove(0, 2, 0, 2);
        x.consistent(0, 0, 2, x.head(0), x.head(2));
        Due.due("seen(0)", x.seen(0), -1);
    }

    private static void seenOfAnyOtherNumber() {
        Due.sentence("-1 .. for any other number");
        Watched x = new Watched(WIDTH);
        x.follow(0, 7, 9);
        for (int what : new int[] {MIN, -2, -1, 2, 3, MAX}) {
            Due.due("seen(" + what + ")", x.seen(what), -1);
        }
        Due.due("seen(0)", x.seen(0), 7);
        Due.due("seen(1)", x.seen(1), 9);
    }

    private static void seenHeadsOfAnyNumber() {
        Due.sentence("true, and it has seen these");
        for (int head : new int[] {MIN, -1, 0, MAX}) {
            Watched x = new Watched(WIDTH);
            x.follow(0, 0, head);
            Due.due("seen(0)", x.seen(0), 0);
            Due.due("seen(1)", x.seen(1), head);
            Due.due("another epoch is no first one", x.follow(0, 5, 9), false);
            Due.due("nor is another head", x.follow(0, 0, head ^ 1), false);
        }
    }

    private static void seenStaysOverAStop() {
        Due.sentence("(This and what follows are answered, and buffers kept, though .. stopped");
        Watched x = Made.epochs(WIDTH, 2);
        x.follow(0, 1, x.head(1));
        x.put(5, 7);
        x.fuse(1);
        x.close();
        Due.due("when stopped", x.seen(0), 1);
        x.restart();
        Due.due("when started again", x.seen(0), 1);
        Due.due("the head", x.seen(1), x.head(1));
    }
}
