/** Promises 11 to 14: a test for each sentence that names a boundary case. */
public final class ProofEdgesTest {
    private static final int MIN = Made.MIN;
    private static final int MAX = Made.MAX;

    public static void main(String[] args) {
        lookups();
        historyProofs();
        refusedProofs();
        word();
        poke();
        trim();
        Due.end();
    }

    private static void lookups() {
        lookupInTheEmptyMap();
        lookupInAMapOfOneName();
        lookupThatEndsAtNothing();
        lookupOfSixBits();
        lookupOfEveryDepth();
        lookupThatFindsAnotherName();
        lookupInAnEarlierEpoch();
        lookupInsteadOfWhatIsThere();
    }

    private static void lookupInTheEmptyMap() {
        Due.sentence("d is the number of bits followed, and what is there is a leaf or nothing");
        Watched x = new Watched(31);
        x.close();
        for (int name : new int[] {0, 17, 36, 63}) {
            Due.due("prove() of " + name, x.prove(0, 0, name, 0), 0);
            Due.words("it", x, 0, 0, -1, 0);
        }
    }

    private static void lookupInAMapOfOneName() {
        Due.sentence("It SAYS the key, if the leaf's name is the name, and otherwise 0");
        Watched x = new Watched(31);
        x.put(0, 1000000);
        x.close();
        Due.due("prove() of it", x.prove(0, 0, 0, 0), 1000000);
        Due.words("it", x, 0, 0, 0, 1000000);
        for (int name : new int[] {1, 17, 36, 63}) {
            Due.due("prove() of " + name, x.prove(0, 0, name, 0), 0);
            Due.words("it", x, 0, 0, 0, 1000000);
        }
    }

    /** Names 17 and 62 have the indices 000000 and 000001; 1, 14 and 43 110000, 010001 and 000010. */
    private static void lookupThatEndsAtNothing() {
        Due.sentence("the leaf's name, or -1; its key, or 0");
        Watched x = new Watched(31);
        x.put(17, 3);
        x.put(62, 4);
        x.close();
        Due.due("prove() of 1", x.prove(0, 0, 1, 0), 0);
        int part = x.hash(2, x.hash(1, 17, 3), x.hash(1, 62, 4));
        int second = x.hash(2, x.hash(2, x.hash(2, part, 0), 0), 0);
        Due.words("nothing at the first bit", x, 0, 1, -1, 0, x.hash(2, second, 0));
        Due.due("prove() of 14", x.prove(0, 0, 14, 0), 0);
        Due.words("nothing at the second bit", x, 0, 2, -1, 0, 0, second);
        Due.due("prove() of 43", x.prove(0, 0, 43, 0), 0);
        Due.words("nothing at the fifth bit", x, 0, 5, -1, 0, 0, 0, 0, 0, part);
    }

    private static void lookupOfSixBits() {
        Due.sentence("for each bit followed, the first one first, the digest of the other part");
        Watched x = new Watched(31);
        x.put(17, 3);
        x.put(62, 4);
        x.close();
        Due.due("prove() of 17", x.prove(0, 0, 17, 0), 3);
        Due.words("it", x, 0, 6, 17, 3, 0, 0, 0, 0, 0, x.hash(1, 62, 4));
        Due.due("prove() of 62", x.prove(0, 0, 62, 0), 4);
        Due.words("it", x, 0, 6, 62, 4, 0, 0, 0, 0, 0, x.hash(1, 17, 3));
    }

    /** Beside name 17, of index 000000, a name whose index first differs at bit 0, 1, .. 5. */
    private static void lookupOfEveryDepth() {
        Due.sentence("bit by bit, as long as there is an inner node");
        int[] others = {49, 33, 57, 5, 43, 62};
        for (int bit = 0; bit < 6; bit++) {
            Watched x = new Watched(31);
            x.put(17, 3);
            x.put(others[bit], 4);
            x.close();
            Due.due("prove() of 17", x.prove(0, 0, 17, 0), 3);
            Due.due("d", x.word(0, 0), bit + 1);
            Due.due("words", x.word(0, -1), bit + 4);
            for (int i = 0; i < bit; i++) {
                Due.due("other part " + i, x.word(0, 3 + i), 0);
            }
            Due.due("the last other part", x.word(0, 3 + bit), x.hash(1, others[bit], 4));
            Due.due("blocks read", x.size(5), bit + 2);
        }
    }

    /** Names 5 and 12 have the indices 000100 and 000111, names 1 and 36 110000 and 111111. */
    private static void lookupThatFindsAnotherName() {
        Due.sentence("and otherwise 0: that there is none");
        Watched x = new Watched(31);
        x.put(5, 7);
        x.put(1, 8);
        x.close();
        Due.due("prove() of 12, beside 5", x.prove(0, 0, 12, 0), 0);
        Due.words("it", x, 0, 1, 5, 7, x.hash(1, 1, 8));
        Due.due("prove() of 36, beside 1", x.prove(0, 0, 36, 0), 0);
        Due.words("it", x, 0, 1, 1, 8, x.hash(1, 5, 7));
    }

    private static void lookupInAnEarlierEpoch() {
        Due.sentence("each has the map as it was then");
        Watched x = Made.epochs(31, 40);
        Due.due("in the first", x.prove(0, 0, 5, 0), 1);
        Due.due("in the last", x.prove(0, 0, 5, 39), 40);
        Due.due("in the one behind the last", x.prove(0, 0, 5, 40), -1);
        Watched y = new Watched(31);
        y.close();
        y.put(5, 1);
        y.close();
        Due.due("before the name came", y.prove(0, 0, 5, 0), 0);
        y.put(5, 2);
        Due.due("what is put and not closed", y.prove(0, 0, 5, 1), 1);
    }

    private static void lookupInsteadOfWhatIsThere() {
        Due.sentence("Writes a proof into buffer b, instead of what is there");
        Watched x = Made.epochs(31, 1);
        for (int i = 0; i < 30; i++) {
            x.poke(2, i, 99);
        }
        x.poke(3, 0, 98);
        x.prove(2, 0, 5, 0);
        Due.words("of 30 words three are left", x, 2, 0, 5, 1);
        x.prove(2, 1, 0, 0);
        Due.words("and then none", x, 2);
        Due.words("the other buffers are kept", x, 3, 98);
        Due.words("and empty ones", x, 1);
    }

    private static void historyProofs() {
        inclusionInItself();
        inclusionOfTheLast();
        longestInclusions();
        consistencyWithItself();
        consistencyFromLeafZero();
        consistencyFromALaterLeaf();
        proofsOfTheLastEpochs();
    }

    private static void inclusionInItself() {
        Due.sentence("and so on to the leaf alone");
        Watched x = Made.epochs(31, 1);
        Due.due("of 0 in 0", x.prove(0, 1, 0, 0), 0);
        Due.words("it", x, 0);
        Due.due("a row of one leaf", x.head(0), x.hash(3, x.root(0), 0));
    }

    private static void inclusionOfTheLast() {
        Due.sentence("An INCLUSION of epoch e in the head of epoch n, e not above n");
        Watched x = Made.epochs(31, 3);
        int zero = x.hash(3, x.root(0), 0);
        int one = x.hash(3, x.root(1), 1);
        int two = x.hash(3, x.root(2), 2);
        Due.due("of 0 in 1", x.prove(0, 1, 0, 1), 1);
        Due.words("it", x, 0, one);
        Due.due("of 1 in 1", x.prove(0, 1, 1, 1), 1);
        Due.words("it", x, 0, zero);
        Due.due("of 2 in 2", x.prove(0, 1, 2, 2), 1);
        Due.words("it", x, 0, x.hash(4, zero, one));
        Due.due("of 1 in 2", x.prove(0, 1, 1, 2), 2);
        Due.words("it, the last one first", x, 0, zero, two);
        Due.due("of 3 in 2", x.prove(0, 1, 3, 2), -1);
        Due.due("of 2 in 1", x.prove(0, 1, 2, 1), -1);
    }

    private static void longestInclusions() {
        Due.sentence("from the whole row of n + 1 leaves");
        Watched x = Made.epochs(31, 40);
        int[] epochs = {0, 31, 31, 32, 39, 32, 0, 16};
        int[] heads = {39, 39, 31, 32, 39, 39, 31, 16};
        int[] words = {6, 6, 5, 1, 4, 4, 5, 1};
        for (int i = 0; i < epochs.length; i++) {
            String call = "of " + epochs[i] + " in " + heads[i];
            Due.due(call, x.prove(0, 1, epochs[i], heads[i]), words[i]);
            Due.due("words " + call, x.word(0, -1), words[i]);
        }
    }

    private static void consistencyWithItself() {
        Due.sentence("A CONSISTENCY of the head of m with that of n, m not above n");
        Watched x = Made.epochs(31, 40);
        for (int n : new int[] {0, 1, 2, 31, 32, 38, 39}) {
            x.poke(0, 0, 5);
            Due.due("of " + n + " with itself", x.prove(0, 2, n, n), 0);
            Due.words("it", x, 0);
        }
        Due.due("of 1 with 0", x.prove(0, 2, 1, 0), -1);
        Due.due("of 39 with 38", x.prove(0, 2, 39, 38), -1);
    }

    private static void consistencyFromLeafZero() {
        Due.sentence("the digest of the row at which this ended, but not if that begins with leaf 0");
        Watched x = Made.epochs(31, 40);
        Due.due("of 0 with 1", x.prove(0, 2, 0, 1), 1);
        Due.words("it", x, 0, x.hash(3, x.root(1), 1));
        Due.due("of 31 with 32", x.prove(0, 2, 31, 32), 1);
        Due.words("it", x, 0, x.hash(3, x.root(32), 32));
        Due.due("of 0 with 39", x.prove(0, 2, 0, 39), 6);
        Due.due("of 15 with 39", x.prove(0, 2, 15, 39), 2);
        Due.due("of 7 with 8", x.prove(0, 2, 7, 8), 1);
        Due.due("of 31 with 39", x.prove(0, 2, 31, 39), 1);
    }

    private static void consistencyFromALaterLeaf() {
        Due.sentence("then the digests of the parts not gone to, the last one first");
        Watched x = Made.epochs(31, 5);
        int[] leaf = new int[5];
        for (int e = 0; e < 5; e++) {
            leaf[e] = x.hash(3, x.root(e), e);
        }
        int zeroOne = x.hash(4, leaf[0], leaf[1]);
        Due.due("of 2 with 3", x.prove(0, 2, 2, 3), 3);
        Due.words("it", x, 0, leaf[2], leaf[3], zeroOne);
        Due.due("of 2 with 4", x.prove(0, 2, 2, 4), 4);
        Due.words("it", x, 0, leaf[2], leaf[3], zeroOne, leaf[4]);
        Due.due("of 1 with 2", x.prove(0, 2, 1, 2), 1);
        Due.words("it", x, 0, leaf[2]);
    }

    private static void proofsOfTheLastEpochs() {
        Due.sentence("no such .. closed epoch");
        Watched x = Made.epochs(31, 40);
        Due.due("a consistency of 38 with 39", x.prove(0, 2, 38, 39), 5);
        Due.due("a consistency of 38 with 40", x.prove(0, 2, 38, 40), -1);
        Due.due("a consistency of 40 with 40", x.prove(0, 2, 40, 40), -1);
        Due.due("an inclusion of 39 in 39", x.prove(0, 1, 39, 39), 4);
        Due.due("an inclusion of 39 in 40", x.prove(0, 1, 39, 40), -1);
        Due.due("an inclusion of 40 in 40", x.prove(0, 1, 40, 40), -1);
    }

    private static void refusedProofs() {
        noSuchBufferToProve();
        noSuchKind();
        noSuchNameToProve();
        noSuchClosedEpoch();
        epochThatTheStopKeptOpen();
        xAboveY();
        proveWhenStopped();
    }

    private static void noSuchBufferToProve() {
        Due.sentence("refused with -1 when there is no such buffer");
        Watched x = Made.epochs(31, 2);
        for (int b : new int[] {MIN, -1, 4, 5, MAX}) {
            for (int kind = 0; kind <= 2; kind++) {
                Due.due("prove(" + b + ", " + kind + ")", x.prove(b, kind, 0, 1), -1);
            }
        }
        for (int b = 0; b < 4; b++) {
            Due.words("buffer " + b, x, b);
            Due.due("prove(" + b + ", 0)", x.prove(b, 0, 5, 1), 2);
            Due.words("buffer " + b, x, b, 0, 5, 2);
        }
    }

    private static void noSuchKind() {
        Due.sentence("refused with -1 when there is no such .. kind");
        Watched x = Made.epochs(31, 2);
        for (int kind : new int[] {MIN, -1, 3, 4, MAX}) {
            Due.due("prove(0, " + kind + ")", x.prove(0, kind, 0, 1), -1);
        }
        Due.words("the buffer", x, 0);
    }

    private static void noSuchNameToProve() {
        Due.sentence("refused with -1 when there is no such .. name");
        Watched x = Made.epochs(31, 2);
        for (int name : new int[] {MIN, -1, 64, 65, MAX}) {
            Due.due("prove(0, 0, " + name + ", 1)", x.prove(0, 0, name, 1), -1);
        }
        Due.words("the buffer", x, 0);
        Due.due("prove(0, 0, 0, 1)", x.prove(0, 0, 0, 1), 0);
        Due.due("prove(0, 0, 63, 1)", x.prove(0, 0, 63, 1), 0);
        Due.due("a name above the epoch is fine", x.prove(0, 0, 5, 1), 2);
    }

    private static void noSuchClosedEpoch() {
        Due.sentence("refused with -1 when there is no such .. closed epoch");
        Watched x = Made.epochs(31, 2);
        for (int e : new int[] {MIN, -1, 2, 3, 39, 40, MAX}) {
            Due.due("prove(0, 0, 0, " + e + ")", x.prove(0, 0, 0, e), -1);
            Due.due("prove(0, 1, 0, " + e + ")", x.prove(0, 1, 0, e), -1);
            Due.due("prove(0, 2, 0, " + e + ")", x.prove(0, 2, 0, e), -1);
            Due.due("prove(0, 1, " + e + ", 1)", x.prove(0, 1, e, 1), -1);
            Due.due("prove(0, 2, " + e + ", 1)", x.prove(0, 2, e, 1), -1);
            Due.due("prove(0, 1, " + e + ", " + e + ")", x.prove(0, 1, e, e), -1);
            Due.due("prove(0, 2, " + e + ", " + e + ")", x.prove(0, 2, e, e), -1);
        }
        Due.words("the buffer", x, 0);
    }

    private static void epochThatTheStopKeptOpen() {
        Due.sentence("refused with -1 when there is no such .. closed epoch");
        Watched x = Made.epochs(31, 2);
        x.put(5, 9);
        x.fuse(1);
        x.close();
        x.restart();
        for (int kind = 0; kind <= 2; kind++) {
            Due.due("prove() of kind " + kind, x.prove(0, kind, 0, 2), -1);
        }
    }

    private static void xAboveY() {
        Due.sentence("or with kinds 1 and 2 x is above y");
        Watched x = Made.epochs(31, 4);
        for (int kind = 1; kind <= 2; kind++) {
            Due.due("prove(0, " + kind + ", 1, 0)", x.prove(0, kind, 1, 0), -1);
            Due.due("prove(0, " + kind + ", 3, 2)", x.prove(0, kind, 3, 2), -1);
            Due.due("prove(0, " + kind + ", 3, 3)", x.prove(0, kind, 3, 3) >= 0, true);
            Due.due("prove(0, " + kind + ", 2, 3)", x.prove(0, kind, 2, 3), kind == 1 ? 2 : 3);
        }
    }

    private static void proveWhenStopped() {
        Due.sentence("DOWN .. (Asked before all else, where it may be the answer.)");
        Watched x = Made.epochs(31, 2);
        x.prove(1, 0, 5, 1);
        x.fuse(1);
        x.close();
        for (int kind = -1; kind <= 3; kind++) {
            Due.due("prove(1, " + kind + ", 0, 1)", x.prove(1, kind, 0, 1), -9);
        }
        Due.due("no buffer", x.prove(4, 0, 5, 1), -9);
        Due.due("no name", x.prove(0, 0, 64, 1), -9);
        Due.due("no epoch", x.prove(0, 0, 5, 40), -9);
        Due.due("x above y", x.prove(0, 1, 1, 0), -9);
        Due.words("the buffer", x, 1, 0, 5, 2);
        x.restart();
        Due.due("when started again", x.prove(1, 0, 5, 0), 1);
    }

    private static void word() {
        wordsThatThereAreNot();
        howManyWords();
        wordOfNoBuffer();
        wordsOfAnyNumber();
    }

    private static void wordsThatThereAreNot() {
        Due.sentence("-2 when there is no such .. word");
        Watched x = new Watched(31);
        for (int b = 0; b < 4; b++) {
            Due.due("word 0 of an empty buffer", x.word(b, 0), -2);
        }
        Due.fill(x, 1, 7, 8, 9);
        Due.due("the last", x.word(1, 2), 9);
        for (int i : new int[] {MIN, -30, -3, -2, 3, 4, 29, 30, 31, MAX}) {
            Due.due("word(1, " + i + ")", x.word(1, i), -2);
        }
        x.trim(1, 1);
        Due.due("one that was cut off", x.word(1, 1), -2);
    }

    private static void howManyWords() {
        Due.sentence("how many it has for i = -1");
        Watched x = new Watched(31);
        Due.due("at first", x.word(3, -1), 0);
        for (int i = 0; i < 30; i++) {
            x.poke(3, i, 100 + i);
            Due.due("word(3, -1)", x.word(3, -1), i + 1);
        }
        Due.due("word(3, 29)", x.word(3, 29), 129);
        Due.due("word(3, 30)", x.word(3, 30), -2);
    }

    private static void wordOfNoBuffer() {
        Due.sentence("-2 when there is no such buffer");
        Watched x = new Watched(31);
        for (int b : new int[] {MIN, -2, -1, 4, 5, MAX}) {
            Due.due("word(" + b + ", -1)", x.word(b, -1), -2);
            Due.due("word(" + b + ", 0)", x.word(b, 0), -2);
        }
    }

    private static void wordsOfAnyNumber() {
        Due.sentence("PROOFS are rows of words (ints)");
        Watched x = new Watched(31);
        Due.fill(x, 0, MIN, MAX, -1, -2, 0);
        Due.words("they", x, 0, MIN, MAX, -1, -2, 0);
    }

    private static void poke() {
        pokeAWordMore();
        pokeBehindTheEnd();
        pokeTheThirtieth();
        pokeBelowZero();
        pokeOfNoBuffer();
        pokeAWordThatIsThere();
    }

    private static void pokeAWordMore() {
        Due.sentence("if i is how many it has, it is a word more");
        Watched x = new Watched(31);
        Due.due("of an empty buffer", x.poke(0, 0, 5), true);
        Due.words("it", x, 0, 5);
        Due.due("behind the first", x.poke(0, 1, 6), true);
        Due.words("it", x, 0, 5, 6);
        for (int b = 1; b < 4; b++) {
            Due.words("buffer " + b, x, b);
        }
    }

    private static void pokeBehindTheEnd() {
        Due.sentence("i is .. above how many it has");
        Watched x = new Watched(31);
        for (int i : new int[] {1, 2, 29, 30, 31, MAX}) {
            Due.due("poke(0, " + i + ", 5)", x.poke(0, i, 5), false);
        }
        Due.words("it", x, 0);
        Due.fill(x, 0, 1, 2);
        for (int i : new int[] {3, 4, 29, 30, 31, MAX}) {
            Due.due("poke(0, " + i + ", 5)", x.poke(0, i, 5), false);
        }
        Due.words("it", x, 0, 1, 2);
    }

    private static void pokeTheThirtieth() {
        Due.sentence("or i is 30");
        Watched x = new Watched(31);
        for (int i = 0; i < 30; i++) {
            Due.due("poke(0, " + i + ")", x.poke(0, i, i), true);
        }
        Due.due("poke(0, 30, 5)", x.poke(0, 30, 5), false);
        Due.due("poke(0, 31, 5)", x.poke(0, 31, 5), false);
        Due.due("how many", x.word(0, -1), 30);
        Due.due("poke(0, 29, 5)", x.poke(0, 29, 5), true);
        Due.due("word(0, 29)", x.word(0, 29), 5);
        Due.due("how many", x.word(0, -1), 30);
    }

    private static void pokeBelowZero() {
        Due.sentence("i is below 0");
        Watched x = new Watched(31);
        Due.fill(x, 0, 1, 2);
        for (int i : new int[] {-1, -2, -30, MIN}) {
            Due.due("poke(0, " + i + ", 5)", x.poke(0, i, 5), false);
        }
        Due.words("it", x, 0, 1, 2);
    }

    private static void pokeOfNoBuffer() {
        Due.sentence("False when there is no such buffer");
        Watched x = new Watched(31);
        for (int b : new int[] {MIN, -1, 4, 5, MAX}) {
            Due.due("poke(" + b + ", 0, 5)", x.poke(b, 0, 5), false);
        }
        for (int b = 0; b < 4; b++) {
            Due.words("buffer " + b, x, b);
        }
    }

    private static void pokeAWordThatIsThere() {
        Due.sentence("Word i of buffer b becomes w");
        Watched x = new Watched(31);
        Due.fill(x, 2, 1, 2, 3);
        Due.due("the first", x.poke(2, 0, MIN), true);
        Due.due("the last", x.poke(2, 2, MAX), true);
        Due.words("it", x, 2, MIN, 2, MAX);
    }

    private static void trim() {
        trimToNone();
        trimToAll();
        trimToMore();
        trimBelowZero();
        trimOfNoBuffer();
        trimAndPoke();
    }

    private static void trimToNone() {
        Due.sentence("Buffer b keeps its first n words");
        Watched x = new Watched(31);
        Due.due("of an empty buffer", x.trim(0, 0), true);
        Due.words("it", x, 0);
        Due.fill(x, 0, 1, 2);
        Due.due("trim(0, 1)", x.trim(0, 1), true);
        Due.words("it", x, 0, 1);
        Due.due("trim(0, 0)", x.trim(0, 0), true);
        Due.words("it", x, 0);
    }

    private static void trimToAll() {
        Due.sentence("Buffer b keeps its first n words");
        Watched x = new Watched(31);
        for (int i = 0; i < 30; i++) {
            x.poke(0, i, i);
        }
        Due.due("trim(0, 30)", x.trim(0, 30), true);
        Due.due("how many", x.word(0, -1), 30);
        Due.due("trim(0, 31)", x.trim(0, 31), false);
        Due.due("trim(0, 29)", x.trim(0, 29), true);
        Due.due("how many", x.word(0, -1), 29);
        Due.due("word(0, 28)", x.word(0, 28), 28);
        Due.due("trim(0, 30)", x.trim(0, 30), false);
    }

    private static void trimToMore() {
        Due.sentence("n is .. above how many it has");
        Watched x = new Watched(31);
        Due.due("trim(0, 1) of an empty buffer", x.trim(0, 1), false);
        Due.fill(x, 0, 1, 2, 3);
        Due.due("trim(0, 2)", x.trim(0, 2), true);
        for (int n : new int[] {3, 4, 30, 31, MAX}) {
            Due.due("trim(0, " + n + ")", x.trim(0, n), false);
        }
        Due.words("it", x, 0, 1, 2);
    }

    private static void trimBelowZero() {
        Due.sentence("n is below 0");
        Watched x = new Watched(31);
        Due.fill(x, 0, 1, 2);
        for (int n : new int[] {-1, -2, MIN}) {
            Due.due("trim(0, " + n + ")", x.trim(0, n), false);
        }
        Due.words("it", x, 0, 1, 2);
    }

    private static void trimOfNoBuffer() {
        Due.sentence("False when there is no such buffer");
        Watched x = new Watched(31);
        for (int b = 0; b < 4; b++) {
            Due.fill(x, b, 1);
        }
        for (int b : new int[] {MIN, -1, 4, 5, MAX}) {
            Due.due("trim(" + b + ", 0)", x.trim(b, 0), false);
        }
        for (int b = 0; b < 4; b++) {
            Due.words("buffer " + b, x, b, 1);
        }
    }

    private static void trimAndPoke() {
        Due.sentence("i is .. above how many it has");
        Watched x = new Watched(31);
        Due.fill(x, 0, 1, 2, 3, 4);
        x.trim(0, 1);
        Due.due("poke(0, 2, 9)", x.poke(0, 2, 9), false);
        Due.due("poke(0, 1, 9)", x.poke(0, 1, 9), true);
        Due.words("it", x, 0, 1, 9);
    }
}
