/** Promises 1 to 10: a test for each sentence that names a boundary case. */
public final class DirectoryEdgesTest {
    private static final int MIN = Made.MIN;
    private static final int MAX = Made.MAX;

    /** With t = 1 and x = 2 this y makes the a of the document 32 ones, so the digest the greatest. */
    private static final int ALL_ONES = 119123693;

    public static void main(String[] args) {
        aNewObject();
        hash();
        put();
        close();
        fuse();
        restart();
        rootsAndHeads();
        block();
        size();
        Due.end();
    }

    private static void aNewObject() {
        widthLessThanFour();
        widthMoreThanThirtyOne();
        widthsBetween();
        newHasNoEpochs();
        newHasAnEmptyMap();
        newHasNoBlocks();
        newHasNoFuse();
        newAuditorHasSeenNothing();
        newHasNothingTakenOut();
        newBuffersAreEmpty();
        newMachineRuns();
        lastCallIsAnswered();
    }

    private static void widthLessThanFour() {
        Due.sentence("The width is width, but 4 if that is less");
        for (int width : new int[] {MIN, -31, -1, 0, 1, 3, 4}) {
            Watched x = new Watched(width);
            Due.due("greatest digest for " + width, x.hash(1, 2, ALL_ONES), 15);
            Due.due("hash(1, 3, 7) for " + width, x.hash(1, 3, 7), 6);
        }
        Due.due("greatest digest for 5", new Watched(5).hash(1, 2, ALL_ONES), 31);
    }

    private static void widthMoreThanThirtyOne() {
        Due.sentence("The width is width, but .. 31 if it is more");
        for (int width : new int[] {31, 32, 33, 35, 36, 63, 64, MAX}) {
            Watched x = new Watched(width);
            Due.due("greatest digest for " + width, x.hash(1, 2, ALL_ONES), MAX);
            Due.due("hash(1, 2, 3) for " + width, x.hash(1, 2, 3), 27959506);
        }
        Due.due("greatest digest for 30", new Watched(30).hash(1, 2, ALL_ONES), MAX / 2);
    }

    private static void widthsBetween() {
        Due.sentence("DIGESTS are numbers 1 .. 2^w - 1; w is the WIDTH, 4 .. 31");
        for (int width = 4; width <= 31; width++) {
            Watched x = new Watched(width);
            int greatest = (int) ((1L << width) - 1);
            Due.due("greatest for " + width, x.hash(1, 2, ALL_ONES), greatest);
            Due.due("least for " + width, x.hash(0, 0, 0), 1);
        }
    }

    private static void newHasNoEpochs() {
        Due.sentence("No epochs");
        Watched x = new Watched(16);
        Due.due("size(0)", x.size(0), 0);
        Due.due("root(0)", x.root(0), -1);
        Due.due("head(0)", x.head(0), -1);
        for (int kind = 0; kind <= 2; kind++) {
            Due.due("prove() of kind " + kind, x.prove(0, kind, 0, 0), -1);
        }
        Due.due("the first to be closed", x.close(), 0);
    }

    private static void newHasAnEmptyMap() {
        Due.sentence("an empty map");
        Watched x = new Watched(16);
        Due.due("size(2)", x.size(2), 0);
        Due.due("size(3)", x.size(3), 0);
        x.close();
        Due.due("size(3)", x.size(3), 0);
        Due.due("root(0)", x.root(0), 0);
        Due.block(x, 0, 3, 0, -1);
        for (int name = 0; name < 64; name++) {
            Due.due("prove() of " + name, x.prove(0, 0, name, 0), 0);
        }
    }

    private static void newHasNoBlocks() {
        Due.sentence("no blocks");
        Watched x = new Watched(16);
        Due.due("size(1)", x.size(1), 0);
        for (int what = 0; what <= 2; what++) {
            Due.due("block(0, " + what + ")", x.block(0, what), -2);
        }
    }

    /** A fuse is at most 100, and this is 256 blocks. */
    private static void newHasNoFuse() {
        Due.sentence("no fuse");
        Watched x = Made.blocks256();
        Due.due("blocks", x.size(1), 256);
        Due.due("stopped", x.size(6), 0);
    }

    private static void newAuditorHasSeenNothing() {
        Due.sentence("the auditor has seen nothing");
        Watched x = new Watched(16);
        Due.due("seen(0)", x.seen(0), -1);
        Due.due("seen(1)", x.seen(1), -1);
        Due.due("so that it takes any head", x.follow(0, 7, 123), true);
    }

    private static void newHasNothingTakenOut() {
        Due.sentence("nothing was taken out");
        Watched x = new Watched(16);
        for (int i = 0; i < 6; i++) {
            Due.due("clash(" + i + ")", x.clash(i), 0);
        }
    }

    private static void newBuffersAreEmpty() {
        Due.sentence("in four BUFFERS 0 .. 3, at first empty");
        Watched x = new Watched(16);
        for (int b = 0; b < 4; b++) {
            Due.words("buffer " + b, x, b);
        }
    }

    private static void newMachineRuns() {
        Due.sentence("6 whether the machine has stopped (1 or 0)");
        Watched x = new Watched(16);
        Due.due("size(6)", x.size(6), 0);
        Due.due("restart()", x.restart(), -1);
    }

    private static void lastCallIsAnswered() {
        Due.sentence("An object is used for at most 512 calls after it has been made");
        Watched x = Made.epochs(31, 40);
        while (x.calls() < Watched.MOST_CALLS - 2) {
            x.prove(0, 2, 12, 39);
        }
        int told = x.prove(0, 0, 5, 39);
        Due.due("prove()", told, 40);
        Due.due("the 512th call", x.word(0, 2), 40);
    }

    private static void hash() {
        hashWraps();
        hashShiftsZerosIn();
        digestZeroIsOne();
        digestAtTheNextOnes();
    }

    /** The numbers were worked out apart from this program, with ints of any length. */
    private static void hashWraps() {
        Due.sentence("With all of it wrapping");
        Watched x = new Watched(31);
        Due.due("three MAX", x.hash(MAX, MAX, MAX), 115057892);
        Due.due("three MIN", x.hash(MIN, MIN, MIN), 667871182);
        Due.due("t is MAX", x.hash(MAX, 0, 0), 1301122824);
        Due.due("x is MAX", x.hash(0, MAX, 0), 1596218735);
        Due.due("y is MAX", x.hash(0, 0, MAX), 1479612465);
        Due.due("t is MIN", x.hash(MIN, 0, 0), 514666682);
        Due.due("x is MIN", x.hash(0, MIN, 0), 514666682);
        Due.due("y is MIN", x.hash(0, 0, MIN), 667871182);
    }

    private static void hashShiftsZerosIn() {
        Due.sentence(">>> moving zeros in");
        Watched x = new Watched(31);
        Due.due("three times -1", x.hash(-1, -1, -1), 1594670387);
        Due.due("hash(2, -1, 0)", x.hash(2, -1, 0), 1357726671);
        Due.due("highest bit alone", x.hash(1, 2, 1510375897), 1073741824);
        Due.due("in width 4", new Watched(4).hash(1, 2, 1510375897), 8);
        Due.due("in width 16", new Watched(16).hash(MIN, MIN, MIN), 20381);
    }

    /** With t = 1 and x = 2 these y make the a of the document 0, 1 and 268435455. */
    private static void digestZeroIsOne() {
        Due.sentence("is the digest, but 1 if that is 0");
        for (int width = 4; width <= 31; width++) {
            Watched x = new Watched(width);
            Due.due("a = 0 in width " + width, x.hash(1, 2, -385052448), 1);
            Due.due("a = 1 in width " + width, x.hash(1, 2, -89489074), 1);
        }
        Due.due("a = 2^28 - 1 in width 4", new Watched(4).hash(1, 2, 988615360), 1);
        Due.due("hash(0, 0, 0)", new Watched(31).hash(0, 0, 0), 1);
    }

    /** The y for an a of 2, 4, 2^28 and 2^29. */
    private static void digestAtTheNextOnes() {
        Due.sentence("a >>> 32 - w is the digest");
        Watched wide = new Watched(31);
        Due.due("a = 2", wide.hash(1, 2, 206074301), 1);
        Due.due("a = 3", wide.hash(1, 2, 501621216), 1);
        Due.due("a = 4", wide.hash(1, 2, 797201051), 2);
        Watched narrow = new Watched(4);
        Due.due("a = 2^28", narrow.hash(1, 2, -148123905), 1);
        Due.due("a = 2^29 - 1", narrow.hash(1, 2, -1932684127), 1);
        Due.due("a = 2^29", narrow.hash(1, 2, 88804638), 2);
    }

    private static void put() {
        putOfNoSuchName();
        putOfNoSuchKey();
        putOfFirstAndLast();
        putCountsNames();
        putOfAllNames();
        putInTheNextEpoch();
        putWhenStopped();
    }

    private static void putOfNoSuchName() {
        Due.sentence("refused with -1 when there is no such name");
        Watched x = new Watched(16);
        for (int name : new int[] {MIN, -64, -1, 64, 65, 127, MAX}) {
            Due.due("put(" + name + ", 1)", x.put(name, 1), -1);
        }
        Due.due("names put", x.size(2), 0);
    }

    private static void putOfNoSuchKey() {
        Due.sentence("refused with -1 when there is no such .. key");
        Watched x = new Watched(16);
        for (int key : new int[] {MIN, -1000000, -1, 0, 1000001, MAX}) {
            Due.due("put(0, " + key + ")", x.put(0, key), -1);
        }
        Due.due("neither name nor key", x.put(64, 0), -1);
        Due.due("names put", x.size(2), 0);
    }

    private static void putOfFirstAndLast() {
        Due.sentence("NAMES are 0 .. 63, KEYS 1 .. 1000000");
        Watched x = new Watched(16);
        Due.due("put(0, 1)", x.put(0, 1), 1);
        Due.due("put(63, 1000000)", x.put(63, 1000000), 2);
        x.close();
        Due.due("prove() of 0", x.prove(0, 0, 0, 0), 1);
        Due.due("prove() of 63", x.prove(0, 0, 63, 0), 1000000);
    }

    private static void putCountsNames() {
        Due.sentence("Answers how many names were put in it");
        Watched x = new Watched(16);
        Due.due("a name", x.put(3, 1), 1);
        Due.due("the name again", x.put(3, 2), 1);
        Due.due("with the key that it has", x.put(3, 2), 1);
        Due.due("another", x.put(4, 2), 2);
        Due.due("the first once more", x.put(3, 1), 2);
    }

    private static void putOfAllNames() {
        Due.sentence("Answers how many names were put in it");
        Watched x = new Watched(16);
        for (int name = 0; name < 64; name++) {
            Due.due("put(" + name + ", 1)", x.put(name, 1), name + 1);
        }
        Due.due("put(63, 2)", x.put(63, 2), 64);
        Due.due("put(64, 2)", x.put(64, 2), -1);
    }

    private static void putInTheNextEpoch() {
        Due.sentence("A name gets a key in the epoch that is open");
        Watched x = new Watched(16);
        x.put(3, 1);
        x.close();
        Due.due("the name in the next epoch", x.put(3, 2), 1);
        Due.due("what the closed one has", x.prove(0, 0, 3, 0), 1);
        x.close();
        Due.due("what the next one has", x.prove(0, 0, 3, 1), 2);
        Due.due("what the first one has still", x.prove(0, 0, 3, 0), 1);
    }

    private static void putWhenStopped() {
        Due.sentence("DOWN .. (Asked before all else, where it may be the answer.)");
        Watched x = new Watched(16);
        x.fuse(1);
        x.close();
        Due.due("put(1, 1)", x.put(1, 1), -9);
        Due.due("put(64, 1)", x.put(64, 1), -9);
        Due.due("put(1, 0)", x.put(1, 0), -9);
        x.restart();
        Due.due("put(1, 1) when started again", x.put(1, 1), 1);
    }

    private static void close() {
        fortiethAndFortyFirstEpoch();
        fortyEpochsWithNothingPut();
        threeHundredBlocksByNames();
        threeHundredBlocksByCheckpoints();
        moreThanThreeHundredBlocks();
        checkpointCountsAmongThreeHundred();
        fullComesBeforeTheFuse();
        fuseWhereThereIsRoom();
        downComesBeforeFull();
        closeWhenStopped();
        closeOfAnEmptyMap();
        closeOfOneName();
        closeOfTheSameKey();
        closeWithNothingPut();
        deepestTreeOfTwoNames();
        leafFromAnotherPrefix();
        zeroPartComesFirst();
        everyOtherNodeOfAFullMap();
    }

    private static void fortiethAndFortyFirstEpoch() {
        Due.sentence("refused with FULL when there are 40");
        Watched x = Made.epochs(16, 39);
        x.put(5, 40);
        Due.due("the 40th", x.close(), 39);
        x.put(5, 41);
        Due.due("the 41st", x.close(), -2);
        Due.due("the 41st again", x.close(), -2);
        Due.due("epochs", x.size(0), 40);
        Due.due("blocks", x.size(1), 80);
        Due.due("names put", x.size(2), 1);
        Due.due("key in epoch 39", x.prove(0, 0, 5, 39), 40);
        Due.due("root(40)", x.root(40), -1);
    }

    private static void fortyEpochsWithNothingPut() {
        Due.sentence("refused with FULL when there are 40");
        Watched x = new Watched(16);
        for (int e = 0; e < 40; e++) {
            Due.due("close()", x.close(), e);
        }
        Due.due("the 41st", x.close(), -2);
        Due.due("blocks", x.size(1), 40);
    }

    private static void threeHundredBlocksByNames() {
        Due.sentence("refused with FULL when there .. would be more than 300 blocks");
        Watched x = Made.blocks292();
        Due.due("blocks", x.size(1), 292);
        x.put(0, 9);
        Due.due("just 300", x.close(), 6);
        Due.due("blocks", x.size(1), 300);
        Due.due("the last is the checkpoint", x.block(299, 0), 3);
        Due.due("no more", x.close(), -2);
        Due.due("key", x.prove(0, 0, 0, 6), 9);
    }

    private static void threeHundredBlocksByCheckpoints() {
        Due.sentence("refused with FULL when there .. would be more than 300 blocks");
        Watched x = Made.blocks292();
        for (int e = 6; e < 14; e++) {
            Due.due("a checkpoint alone", x.close(), e);
        }
        Due.due("blocks", x.size(1), 300);
        Due.due("a checkpoint more", x.close(), -2);
        Due.due("blocks", x.size(1), 300);
        Due.due("epochs", x.size(0), 14);
    }

    private static void moreThanThreeHundredBlocks() {
        Due.sentence("refused with FULL when there .. would be more than 300 blocks");
        Watched x = Made.blocks292();
        x.put(17, 9);
        x.put(62, 9);
        Due.due("301", x.close(), -2);
        Due.due("blocks", x.size(1), 292);
        Due.due("epochs", x.size(0), 6);
        Due.due("names put", x.size(2), 2);
        Due.due("stopped", x.size(6), 0);
        Due.due("put() still answers", x.put(1, 1), 3);
        Due.due("and close() is refused again", x.close(), -2);
        Due.due("the key stays", x.prove(0, 0, 17, 5), 13);
    }

    private static void checkpointCountsAmongThreeHundred() {
        Due.sentence("Blocks 0, 1, .., at most 300 .. a CHECKPOINT has an epoch");
        Watched x = Made.blocks292();
        x.close();
        x.put(0, 9);
        Due.due("7 nodes would make 300, the checkpoint 301", x.close(), -2);
        Due.due("blocks", x.size(1), 293);
    }

    /**
     * The sentence names no fuse: also where the machine would have stopped before the 301st block,
     * there would be more than 300. Here the 8th block would be the 300th, and the 9th is one too many.
     */
    private static void fullComesBeforeTheFuse() {
        Due.sentence("refused with FULL when there are 40, or would be more than 300 blocks");
        for (int k = 1; k <= 100; k++) {
            Watched x = Made.blocks292();
            x.put(17, 9);
            x.put(62, 9);
            x.fuse(k);
            refusedForGood(x, 292, 2);
            Watched y = Made.epochs(16, 40);
            y.put(5, 9);
            y.fuse(k);
            refusedForGood(y, 80, 1);
        }
    }

    private static void refusedForGood(Watched x, int blocks, int names) {
        for (int i = 0; i < 3; i++) {
            Due.due("close()", x.close(), -2);
            Due.due("blocks", x.size(1), blocks);
            Due.due("names put", x.size(2), names);
            Due.due("stopped", x.size(6), 0);
            Due.due("restart()", x.restart(), -1);
        }
    }

    /** Just 300 blocks are not too many, so here the fuse is what tells. */
    private static void fuseWhereThereIsRoom() {
        Due.sentence("DOWN (also when the machine stops with it)");
        for (int k = 1; k <= 9; k++) {
            Watched x = Made.blocks292();
            x.put(0, 9);
            x.fuse(k);
            Due.due("close() with fuse " + k, x.close(), k <= 8 ? -9 : 6);
            Due.due("blocks", x.size(1), k <= 8 ? 292 + k : 300);
            Due.due("epochs", x.size(0), k < 8 ? 6 : 7);
            Due.due("restart()", x.restart(), k < 8 ? k : k == 8 ? 0 : -1);
        }
    }

    private static void downComesBeforeFull() {
        Due.sentence("The machine has stopped. (Asked before all else, where it may be the answer.)");
        Watched x = Made.epochs(16, 39);
        x.fuse(1);
        Due.due("the 40th stops", x.close(), -9);
        Due.due("but is closed", x.size(0), 40);
        Due.due("close() when stopped", x.close(), -9);
        Due.due("restart()", x.restart(), 0);
        Due.due("close() when started again", x.close(), -2);
        Watched y = Made.blocks292();
        y.put(0, 9);
        y.fuse(8);
        Due.due("the 300th block stops", y.close(), -9);
        Due.due("blocks", y.size(1), 300);
        Due.due("close() when stopped", y.close(), -9);
        Due.due("restart()", y.restart(), 0);
        Due.due("close() when started again", y.close(), -2);
    }

    private static void closeWhenStopped() {
        Due.sentence("DOWN (also when the machine stops with it)");
        Watched x = new Watched(16);
        Made.putThree(x, 1);
        x.fuse(3);
        Due.due("close() that stops", x.close(), -9);
        Due.due("close() when stopped", x.close(), -9);
        Due.due("blocks", x.size(1), 3);
        Due.due("epochs", x.size(0), 0);
    }

    private static void closeOfAnEmptyMap() {
        Due.sentence("the block of its tree's first node (-1 for an empty map)");
        Watched x = new Watched(16);
        Due.due("close()", x.close(), 0);
        Due.due("blocks", x.size(1), 1);
        Due.block(x, 0, 3, 0, -1);
        Due.due("root(0)", x.root(0), 0);
        Due.due("head(0)", x.head(0), x.hash(3, 0, 0));
        Due.due("close() again", x.close(), 1);
        Due.block(x, 1, 3, 1, -1);
    }

    private static void closeOfOneName() {
        Due.sentence("for one with which the index of just one name begins .. a LEAF");
        for (int name : new int[] {0, 17, 36, 63}) {
            Watched x = new Watched(16);
            x.put(name, 8);
            x.close();
            Due.due("blocks", x.size(1), 2);
            Due.block(x, 0, 1, name, 8);
            Due.block(x, 1, 3, 0, 0);
            Due.due("root(0)", x.root(0), x.hash(1, name, 8));
        }
    }

    private static void closeOfTheSameKey() {
        Due.sentence("that was put in this epoch (though it may have got the key that it had)");
        Watched x = new Watched(16);
        x.put(5, 8);
        x.close();
        x.put(5, 8);
        x.close();
        Due.due("blocks", x.size(1), 4);
        Due.block(x, 2, 1, 5, 8);
        Due.block(x, 3, 3, 1, 2);
        x.put(5, 9);
        x.put(5, 8);
        x.close();
        Due.block(x, 4, 1, 5, 8);
        Due.due("root(2)", x.root(2), x.root(0));
    }

    private static void closeWithNothingPut() {
        Due.sentence("the others have blocks already (an inner node the latest one of its prefix");
        Watched x = new Watched(16);
        Made.putThree(x, 1);
        x.close();
        x.put(5, 4);
        x.close();
        x.close();
        Due.due("blocks", x.size(1), 13);
        Due.block(x, 11, 3, 1, 10);
        Due.block(x, 12, 3, 2, 10);
        Due.due("root(2)", x.root(2), x.root(1));
        x.put(1, 6);
        x.close();
        Due.block(x, 13, 1, 1, 6);
        Due.block(x, 14, 2, 9, 13);
        Due.block(x, 15, 3, 3, 14);
    }

    /** Names 17 and 62 have the indices 0 and 1, names 55 and 36 the indices 62 and 63. */
    private static void deepestTreeOfTwoNames() {
        Due.sentence("A PREFIX is the first 0 to 6 bits");
        Watched x = new Watched(16);
        x.put(17, 1);
        x.put(62, 2);
        x.close();
        Due.due("blocks", x.size(1), 9);
        Due.block(x, 2, 2, 0, 1);
        for (int i = 3; i < 8; i++) {
            Due.block(x, i, 2, i - 1, -1);
        }
        Watched y = new Watched(16);
        y.put(36, 1);
        y.put(55, 2);
        y.close();
        Due.block(y, 0, 1, 55, 2);
        Due.block(y, 1, 1, 36, 1);
        Due.block(y, 2, 2, 0, 1);
        for (int i = 3; i < 8; i++) {
            Due.block(y, i, 2, -1, i - 1);
        }
    }

    /** Name 17 alone is a leaf at the empty prefix, and goes down to six bits when 62 comes. */
    private static void leafFromAnotherPrefix() {
        Due.sentence("a leaf the latest one of its name, though it may have been written for another");
        Watched x = new Watched(16);
        x.put(17, 1);
        x.close();
        x.put(17, 3);
        x.close();
        x.put(62, 2);
        x.close();
        Due.due("blocks", x.size(1), 12);
        Due.block(x, 4, 1, 62, 2);
        Due.block(x, 5, 2, 2, 4);
        Due.block(x, 6, 2, 5, -1);
        Due.block(x, 11, 3, 2, 10);
        Due.due("key of 17", x.prove(0, 0, 17, 2), 3);
    }

    private static void zeroPartComesFirst() {
        Due.sentence("the node's part with a 0 more first, then that with a 1 more, then the node");
        Watched x = new Watched(16);
        Made.putThree(x, 1);
        x.close();
        Due.block(x, 0, 1, 5, 1);
        Due.block(x, 1, 1, 7, 2);
        Due.block(x, 2, 2, 0, 1);
        Due.block(x, 3, 1, 9, 3);
        Due.block(x, 4, 2, 2, 3);
        Due.block(x, 5, 2, 4, -1);
        Due.block(x, 6, 3, 0, 5);
    }

    /** Of 127 nodes only those above the one name are written anew: the others keep their blocks. */
    private static void everyOtherNodeOfAFullMap() {
        Due.sentence("the others have blocks already");
        for (int name : new int[] {17, 36, 33, 0}) {
            Watched x = new Watched(31);
            Made.putAll(x, 5);
            x.close();
            x.put(name, 6);
            x.close();
            Due.due("blocks", x.size(1), 136);
            for (int other = 0; other < 64; other++) {
                int key = other == name ? 6 : 5;
                Due.due("prove() of " + other, x.prove(0, 0, other, 1), key);
                Due.due("check() of " + other, x.check(0, other, x.root(1)), key);
            }
        }
    }

    private static void fuse() {
        fuseOutsideOneToHundred();
        fuseOfHundred();
        fuseLongerThanOneThatWasSet();
        fuseShorterThanOneThatWasSet();
        fuseCountsFromItsSetting();
        refusedFuseLeavesTheOneThatWasSet();
        fuseWhenStopped();
        fuseIsGoneWithTheStop();
        stopBehindEachBlock();
        stopBehindEachBlockOfALaterEpoch();
        fuseLongerThanAClosing();
        fuseBurnsOnlyByBlocks();
    }

    private static void fuseOutsideOneToHundred() {
        Due.sentence("False when .. k is not 1 .. 100");
        Watched x = new Watched(16);
        for (int k : new int[] {MIN, -100, -1, 0, 101, 102, MAX}) {
            Due.due("fuse(" + k + ")", x.fuse(k), false);
        }
        for (int e = 0; e < 40; e++) {
            Due.due("none was set", x.close(), e);
        }
        for (int k = 1; k <= 100; k++) {
            Due.due("fuse(" + k + ")", x.fuse(k), true);
        }
    }

    private static void fuseOfHundred() {
        Due.sentence("the machine STOPS right behind the k-th block written since then");
        Watched x = new Watched(16);
        Made.putAll(x, 1);
        Due.due("fuse(100)", x.fuse(100), true);
        Due.due("close() of 128 blocks", x.close(), -9);
        Due.due("blocks", x.size(1), 100);
        Due.due("restart()", x.restart(), 100);
        Made.putAll(x, 1);
        Due.due("fuse(99)", x.fuse(99), true);
        Due.due("close() of 128 blocks", x.close(), -9);
        Due.due("blocks", x.size(1), 99);
    }

    private static void fuseLongerThanOneThatWasSet() {
        Due.sentence("Sets the fuse to k, instead of one that was set");
        Watched x = new Watched(16);
        x.fuse(2);
        x.fuse(4);
        for (int e = 0; e < 3; e++) {
            Due.due("close()", x.close(), e);
        }
        Due.due("the fourth block", x.close(), -9);
    }

    private static void fuseShorterThanOneThatWasSet() {
        Due.sentence("Sets the fuse to k, instead of one that was set");
        Watched x = new Watched(16);
        x.fuse(4);
        x.fuse(2);
        Due.due("the first block", x.close(), 0);
        Due.due("the second block", x.close(), -9);
        x.restart();
        for (int e = 2; e < 12; e++) {
            Due.due("nothing is left of the first fuse", x.close(), e);
        }
    }

    private static void fuseCountsFromItsSetting() {
        Due.sentence("the k-th block written since then");
        Watched x = new Watched(16);
        x.close();
        x.fuse(3);
        x.close();
        x.close();
        x.fuse(3);
        Due.due("the first block since then", x.close(), 3);
        Due.due("the second", x.close(), 4);
        Due.due("the third", x.close(), -9);
        Due.due("blocks", x.size(1), 6);
    }

    private static void refusedFuseLeavesTheOneThatWasSet() {
        Due.sentence("A call that is refused, or answers false, changes nothing");
        for (int k : new int[] {0, -1, 101, MIN, MAX}) {
            Watched x = new Watched(16);
            x.fuse(2);
            Due.due("fuse(" + k + ")", x.fuse(k), false);
            Due.due("the first block", x.close(), 0);
            Due.due("the second block", x.close(), -9);
        }
    }

    private static void fuseWhenStopped() {
        Due.sentence("False when the machine has stopped");
        Watched x = new Watched(16);
        x.fuse(1);
        x.close();
        for (int k : new int[] {1, 2, 50, 100, 0, 101}) {
            Due.due("fuse(" + k + ")", x.fuse(k), false);
        }
        x.restart();
        for (int e = 1; e < 40; e++) {
            Due.due("none was set", x.close(), e);
        }
    }

    private static void fuseIsGoneWithTheStop() {
        Due.sentence("and the fuse is gone");
        Watched x = new Watched(16);
        x.fuse(2);
        x.put(5, 1);
        Due.due("close()", x.close(), -9);
        x.restart();
        for (int e = 1; e < 30; e++) {
            Due.due("close()", x.close(), e);
        }
        Due.due("a new one", x.fuse(1), true);
        Due.due("close()", x.close(), -9);
    }

    private static void stopBehindEachBlock() {
        Due.sentence("Then it writes the checkpoint, and with that block the epoch is closed");
        for (int k = 1; k <= 7; k++) {
            Watched x = new Watched(16);
            Made.putThree(x, 1);
            x.fuse(k);
            boolean closed = k == 7;
            Due.due("close() with fuse " + k, x.close(), -9);
            Due.due("blocks", x.size(1), k);
            Due.due("the next block", x.block(k, 0), -2);
            Due.due("epochs", x.size(0), closed ? 1 : 0);
            Due.due("names put", x.size(2), 0);
            Due.due("names in the map", x.size(3), closed ? 3 : 0);
            Due.due("stopped", x.size(6), 1);
            Due.due("root(0)", x.root(0) == -1, !closed);
            Due.due("head(0)", x.head(0) == -1, !closed);
            Due.due("restart()", x.restart(), closed ? 0 : k);
            Due.due("blocks", x.size(1), closed ? 7 : 0);
            Due.due("the next epoch", x.close(), closed ? 1 : 0);
            Due.due("blocks", x.size(1), closed ? 8 : 1);
        }
    }

    private static void stopBehindEachBlockOfALaterEpoch() {
        Due.sentence("the blocks behind the last checkpoint are cut off");
        for (int k = 1; k <= 5; k++) {
            Watched x = new Watched(16);
            Made.putThree(x, 1);
            x.close();
            x.put(5, 9);
            x.fuse(k);
            boolean closed = k == 5;
            Due.due("close() with fuse " + k, x.close(), -9);
            Due.due("blocks", x.size(1), 7 + k);
            Due.due("epochs", x.size(0), closed ? 2 : 1);
            Due.due("restart()", x.restart(), closed ? 0 : k);
            Due.due("blocks", x.size(1), closed ? 12 : 7);
            x.put(7, 8);
            Due.due("the next epoch", x.close(), closed ? 2 : 1);
            Due.due("key of 5", x.prove(0, 0, 5, closed ? 2 : 1), closed ? 9 : 1);
            Due.due("key of 7", x.prove(0, 0, 7, closed ? 2 : 1), 8);
            Due.block(x, (closed ? 12 : 7) + 1, 2, closed ? 7 : 0, closed ? 12 : 7);
        }
    }

    private static void fuseLongerThanAClosing() {
        Due.sentence("right behind the k-th block written since then");
        Watched x = new Watched(16);
        Made.putThree(x, 1);
        x.fuse(8);
        Due.due("close() of 7 blocks", x.close(), 0);
        Due.due("stopped", x.size(6), 0);
        Due.due("close() of the 8th", x.close(), -9);
        Due.due("epochs", x.size(0), 2);
        Due.due("blocks", x.size(1), 8);
    }

    private static void fuseBurnsOnlyByBlocks() {
        Due.sentence("the k-th block written since then");
        Watched x = Made.epochs(16, 2);
        x.fuse(1);
        x.put(5, 9);
        x.put(64, 9);
        x.prove(0, 0, 5, 1);
        x.poke(0, 0, 1);
        x.trim(0, 0);
        x.restart();
        x.fuse(0);
        Due.due("stopped", x.size(6), 0);
        Due.due("close()", x.close(), -9);
        Due.due("blocks", x.size(1), 5);
    }

    private static void restart() {
        restartWhenItHasNotStopped();
        restartCutsNothing();
        restartWithoutACheckpoint();
        putIsLostByTheStop();
        putIsLostByTheStopBehindTheCheckpoint();
        cutBlocksAreNoLatestOnes();
        cutBlocksLeaveNoTrace();
        restartKeepsAllElse();
    }

    private static void restartWhenItHasNotStopped() {
        Due.sentence("refused with -1 when it has not stopped");
        Watched x = new Watched(16);
        Due.due("a new one", x.restart(), -1);
        x.put(5, 1);
        Due.due("with a name put", x.restart(), -1);
        Due.due("names put", x.size(2), 1);
        x.fuse(2);
        Due.due("with a fuse", x.restart(), -1);
        Due.due("close()", x.close(), -9);
        Due.due("stopped", x.restart(), 0);
        Due.due("started again", x.restart(), -1);
        Due.due("blocks", x.size(1), 2);
    }

    private static void restartCutsNothing() {
        Due.sentence("Answers how many blocks were cut off");
        Watched x = Made.epochs(16, 3);
        x.fuse(1);
        x.close();
        Due.due("stopped behind a checkpoint", x.restart(), 0);
        Due.due("blocks", x.size(1), 7);
        Due.due("the checkpoint", x.block(6, 0), 3);
        Due.due("stopped", x.size(6), 0);
    }

    private static void restartWithoutACheckpoint() {
        Due.sentence("the blocks behind the last checkpoint are cut off");
        Watched x = new Watched(16);
        x.put(5, 1);
        x.fuse(1);
        x.close();
        Due.due("blocks", x.size(1), 1);
        Due.due("restart()", x.restart(), 1);
        Due.due("blocks", x.size(1), 0);
        Due.due("block(0, 0)", x.block(0, 0), -2);
        Due.due("close()", x.close(), 0);
        Due.block(x, 0, 3, 0, -1);
    }

    private static void putIsLostByTheStop() {
        Due.sentence("What was put and not closed is lost by a stop");
        Watched x = Made.epochs(16, 1);
        x.put(5, 9);
        x.put(9, 9);
        x.fuse(1);
        x.close();
        Due.due("names put, when stopped", x.size(2), 0);
        Due.due("names in the map, when stopped", x.size(3), 1);
        x.restart();
        Due.due("names put", x.size(2), 0);
        Due.due("put() in it", x.put(7, 3), 1);
        x.close();
        Due.due("key of 5", x.prove(0, 0, 5, 1), 1);
        Due.due("key of 9", x.prove(0, 0, 9, 1), 0);
        Due.due("key of 7", x.prove(0, 0, 7, 1), 3);
        Due.due("names in the map", x.size(3), 2);
    }

    private static void putIsLostByTheStopBehindTheCheckpoint() {
        Due.sentence("What was put and not closed is lost by a stop");
        Watched x = Made.epochs(16, 1);
        x.put(5, 9);
        x.fuse(2);
        x.close();
        Due.due("names put, when stopped", x.size(2), 0);
        x.restart();
        Due.due("what was closed is not lost", x.prove(0, 0, 5, 1), 9);
        x.close();
        Due.due("blocks: a checkpoint more", x.size(1), 5);
        Due.due("key of 5", x.prove(0, 0, 5, 2), 9);
    }

    private static void cutBlocksAreNoLatestOnes() {
        Due.sentence("the others have blocks already (.. the latest one of its prefix");
        Watched x = new Watched(16);
        Made.putThree(x, 1);
        x.close();
        Made.putThree(x, 11);
        x.fuse(6);
        x.close();
        Due.due("restart()", x.restart(), 6);
        x.put(9, 30);
        x.close();
        Due.block(x, 7, 1, 9, 30);
        Due.block(x, 8, 2, 2, 7);
        Due.block(x, 9, 2, 8, -1);
        Due.block(x, 10, 3, 1, 9);
        x.put(50, 40);
        x.close();
        Due.due("key of 5, whose leaf went down", x.prove(0, 0, 5, 2), 1);
    }

    /** The new checkpoint stands where a block was cut off, whatever that was. */
    private static void cutBlocksLeaveNoTrace() {
        Due.sentence("the blocks behind the last checkpoint are cut off");
        for (int k = 1; k <= 6; k++) {
            for (int name : new int[] {5, 7, 9, 1}) {
                Watched x = new Watched(31);
                Made.putThree(x, 1);
                x.close();
                Made.putThree(x, 11);
                x.fuse(k);
                x.close();
                x.restart();
                Due.due("a checkpoint alone", x.close(), 1);
                Due.block(x, 7, 3, 1, 5);
                x.put(name, 30);
                Due.due("close()", x.close(), 2);
                Due.due("key of 5", x.prove(0, 0, 5, 2), name == 5 ? 30 : 1);
                Due.due("key of 7", x.prove(0, 0, 7, 2), name == 7 ? 30 : 2);
                Due.due("key of 9", x.prove(0, 0, 9, 2), name == 9 ? 30 : 3);
                Due.due("it is accepted", x.check(0, 9, x.root(2)), name == 9 ? 30 : 3);
            }
        }
    }

    private static void restartKeepsAllElse() {
        Due.sentence("(This and what follows are answered, and buffers kept, though .. stopped");
        Watched x = Made.epochs(16, 3);
        x.prove(0, 0, 5, 1);
        x.prove(1, 2, 1, 2);
        x.follow(2, 1, x.head(1));
        int root = x.root(1);
        int words = x.word(1, -1);
        x.put(9, 1);
        x.fuse(1);
        x.close();
        Due.due("root(1)", x.root(1), root);
        Due.due("check()", x.check(0, 5, root), 2);
        Due.due("words", x.word(1, -1), words);
        Due.due("seen(0)", x.seen(0), 1);
        Due.due("size(4)", x.size(4), words);
        Due.due("restart()", x.restart(), 1);
        Due.due("check()", x.check(0, 5, root), 2);
        Due.due("words", x.word(1, -1), words);
        Due.due("seen(0)", x.seen(0), 1);
        Due.due("follow()", x.follow(1, 2, x.head(2)), true);
    }

    private static void rootsAndHeads() {
        rootOfAnEpochNotClosed();
        headOfAnEpochNotClosed();
        rootOfAStoppedEpoch();
        rootOfNothingAndOfALeaf();
        rootsOfAllNames();
        headsSplitAtThePowerOfTwo();
    }

    private static void rootOfAnEpochNotClosed() {
        Due.sentence("The root of epoch e; -1 when it isn't closed");
        Watched x = Made.epochs(16, 3);
        for (int e : new int[] {MIN, -2, -1, 3, 4, 39, 40, MAX}) {
            Due.due("root(" + e + ")", x.root(e), -1);
        }
        for (int e = 0; e < 3; e++) {
            Due.due("root(" + e + ")", x.root(e), x.hash(1, 5, e + 1));
        }
        Watched y = Made.epochs(16, 40);
        Due.due("root(39)", y.root(39), y.hash(1, 5, 40));
        Due.due("root(40)", y.root(40), -1);
        Due.due("root(41)", y.root(41), -1);
    }

    private static void headOfAnEpochNotClosed() {
        Due.sentence("The head of epoch e; -1 when it isn't closed");
        Watched x = Made.epochs(16, 2);
        for (int e : new int[] {MIN, -2, -1, 2, 3, 39, 40, MAX}) {
            Due.due("head(" + e + ")", x.head(e), -1);
        }
        int zero = x.hash(3, x.root(0), 0);
        Due.due("head(0)", x.head(0), zero);
        Due.due("head(1)", x.head(1), x.hash(4, zero, x.hash(3, x.root(1), 1)));
        Watched y = Made.epochs(16, 40);
        Due.due("head(39)", y.head(39) > 0, true);
        Due.due("head(40)", y.head(40), -1);
        Due.due("head(41)", y.head(41), -1);
    }

    private static void rootOfAStoppedEpoch() {
        Due.sentence("-1 when it isn't closed. (This and what follows are answered .. though .. stopped");
        Watched x = Made.epochs(16, 1);
        x.put(5, 9);
        x.fuse(1);
        x.close();
        Due.due("root(0)", x.root(0), x.hash(1, 5, 1));
        Due.due("head(0)", x.head(0), x.hash(3, x.root(0), 0));
        Due.due("root(1)", x.root(1), -1);
        Due.due("head(1)", x.head(1), -1);
        x.restart();
        Due.due("root(1)", x.root(1), -1);
        Due.due("head(1)", x.head(1), -1);
    }

    private static void rootOfNothingAndOfALeaf() {
        Due.sentence("The DIGEST of nothing is 0, of a leaf H(1, name, key), of an inner node H(2, ..)");
        Watched x = new Watched(16);
        x.close();
        x.put(17, 1);
        x.close();
        x.put(62, 2);
        x.close();
        Due.due("the empty map", x.root(0), 0);
        Due.due("one name", x.root(1), x.hash(1, 17, 1));
        int digest = x.hash(2, x.hash(1, 17, 1), x.hash(1, 62, 2));
        for (int i = 0; i < 5; i++) {
            digest = x.hash(2, digest, 0);
        }
        Due.due("two names that share five bits", x.root(2), digest);
    }

    private static void rootsOfAllNames() {
        Due.sentence("A name's INDEX is (37 * name + 11) % 64");
        Watched x = new Watched(31);
        PlainDirectory plain = new PlainDirectory(31);
        int[] digests = new int[64];
        for (int name = 0; name < 64; name++) {
            x.put(name, name + 1);
            digests[(37 * name + 11) % 64] = plain.hash(1, name, name + 1);
        }
        x.close();
        for (int count = 32; count >= 1; count /= 2) {
            for (int i = 0; i < count; i++) {
                digests[i] = plain.hash(2, digests[2 * i], digests[2 * i + 1]);
            }
        }
        Due.due("root(0)", x.root(0), digests[0]);
    }

    /** Of a row of n leaves, the first k and the others: from 2 on, where n passes a power of two. */
    private static void headsSplitAtThePowerOfTwo() {
        Due.sentence("k being the greatest power of two below n");
        int[] lengths = {2, 3, 4, 5, 7, 8, 9, 15, 16, 17, 31, 32, 33, 39, 40};
        int[] firsts = {1, 2, 2, 4, 4, 4, 8, 8, 8, 16, 16, 16, 32, 32, 32};
        for (int i = 0; i < lengths.length; i++) {
            Watched x = Made.epochs(31, 40);
            int last = lengths[i] - 1;
            x.prove(0, 1, last, last);
            int words = x.word(0, -1);
            int first = x.word(0, words - 1);
            Due.due("the first part of " + lengths[i], first, x.head(firsts[i] - 1));
            int made = x.hash(3, x.root(last), last);
            for (int w = 0; w < words; w++) {
                made = x.hash(4, x.word(0, w), made);
            }
            Due.due("head(" + last + ")", x.head(last), made);
        }
    }

    private static void block() {
        blockThatThereIsNot();
        blockOfAnyOtherNumber();
        blocksThatWillBeCutOff();
        blockWithoutAPart();
        lastBlock();
    }

    private static void blockThatThereIsNot() {
        Due.sentence("-2 when there is no such block");
        Watched x = Made.epochs(16, 2);
        for (int i : new int[] {MIN, -2, -1, 4, 5, 299, 300, 301, MAX}) {
            for (int what = 0; what <= 2; what++) {
                Due.due("block(" + i + ", " + what + ")", x.block(i, what), -2);
            }
        }
        Due.block(x, 0, 1, 5, 1);
        Due.block(x, 3, 3, 1, 2);
    }

    private static void blockOfAnyOtherNumber() {
        Due.sentence("-2 .. for any other number");
        Watched x = Made.epochs(16, 2);
        for (int i = -1; i <= 4; i++) {
            for (int what : new int[] {MIN, -2, -1, 3, 4, MAX}) {
                Due.due("block(" + i + ", " + what + ")", x.block(i, what), -2);
            }
        }
    }

    private static void blocksThatWillBeCutOff() {
        Due.sentence("1 the blocks (those that will be cut off included)");
        Watched x = Made.epochs(16, 1);
        x.put(5, 9);
        x.put(9, 8);
        x.fuse(3);
        x.close();
        Due.due("blocks", x.size(1), 5);
        Due.block(x, 2, 1, 5, 9);
        Due.block(x, 3, 1, 9, 8);
        Due.block(x, 4, 2, 2, 3);
        Due.due("block(5, 0)", x.block(5, 0), -2);
        Due.due("restart()", x.restart(), 3);
        Due.due("blocks", x.size(1), 2);
        for (int i = 2; i <= 5; i++) {
            Due.due("block(" + i + ", 0)", x.block(i, 0), -2);
        }
        Due.block(x, 1, 3, 0, 0);
    }

    private static void blockWithoutAPart() {
        Due.sentence("the numbers of the blocks of its two parts (-1 for nothing)");
        Watched x = new Watched(16);
        x.put(5, 1);
        x.put(9, 2);
        x.close();
        Due.block(x, 3, 2, 2, -1);
        Watched y = new Watched(16);
        y.put(36, 1);
        y.put(1, 2);
        y.close();
        Due.block(y, 3, 2, -1, 2);
    }

    private static void lastBlock() {
        Due.sentence("Blocks 0, 1, .., at most 300");
        Watched x = Made.blocks292();
        x.put(0, 9);
        x.close();
        Due.due("block(299, 0)", x.block(299, 0), 3);
        Due.due("block(299, 1)", x.block(299, 1), 6);
        Due.due("block(299, 2)", x.block(299, 2), 298);
        Due.due("block(300, 0)", x.block(300, 0), -2);
    }

    private static void size() {
        sizeOfAnyOtherNumber();
        sizeOfEpochs();
        sizeOfNamesPut();
        sizeOfNamesInTheMap();
        sizeOfWords();
        sizeOfBlocksRead();
        sizeOfStopped();
    }

    private static void sizeOfAnyOtherNumber() {
        Due.sentence("-1 for any other number");
        Watched x = Made.epochs(16, 2);
        for (int what : new int[] {MIN, -2, -1, 7, 8, MAX}) {
            Due.due("size(" + what + ")", x.size(what), -1);
        }
    }

    private static void sizeOfEpochs() {
        Due.sentence("0 the epochs closed");
        Watched x = new Watched(16);
        for (int e = 0; e < 40; e++) {
            Due.due("size(0)", x.size(0), e);
            x.close();
        }
        Due.due("size(0)", x.size(0), 40);
        x.close();
        Due.due("size(0)", x.size(0), 40);
    }

    private static void sizeOfNamesPut() {
        Due.sentence("2 the names put in the open epoch");
        Watched x = new Watched(16);
        Due.due("none", x.size(2), 0);
        x.put(5, 1);
        x.put(5, 2);
        Due.due("one, put twice", x.size(2), 1);
        x.put(64, 1);
        x.put(6, 0);
        Due.due("refused ones do not count", x.size(2), 1);
        x.close();
        Due.due("none in the next", x.size(2), 0);
        Made.putAll(x, 1);
        Due.due("all", x.size(2), 64);
    }

    private static void sizeOfNamesInTheMap() {
        Due.sentence("3 the names in the map of the epoch closed last");
        Watched x = new Watched(16);
        Due.due("none is closed", x.size(3), 0);
        x.put(5, 1);
        Due.due("the open one does not count", x.size(3), 0);
        x.close();
        Due.due("one", x.size(3), 1);
        x.put(5, 2);
        x.close();
        Due.due("the same one", x.size(3), 1);
        x.close();
        Due.due("nothing put", x.size(3), 1);
        Made.putAll(x, 1);
        x.close();
        Due.due("all", x.size(3), 64);
        x.fuse(1);
        x.put(5, 1);
        x.close();
        Due.due("when stopped", x.size(3), 64);
    }

    private static void sizeOfWords() {
        Due.sentence("4 the words that prove() wrote last (0 at first)");
        Watched x = Made.epochs(16, 6);
        Due.due("at first", x.size(4), 0);
        x.prove(0, 1, 1, 1);
        Due.due("an inclusion of 1 in 1", x.size(4), 1);
        x.prove(0, 0, 5, 1);
        Due.due("a lookup", x.size(4), 3);
        x.prove(1, 0, 64, 1);
        Due.due("a refused one", x.size(4), 3);
        x.poke(0, 3, 1);
        x.trim(0, 1);
        Due.due("words changed", x.size(4), 3);
        x.prove(3, 2, 0, 0);
        Due.due("a consistency without words", x.size(4), 0);
        x.prove(3, 2, 2, 5);
        Due.due("a consistency of 2 with 5", x.size(4), 4);
    }

    private static void sizeOfBlocksRead() {
        Due.sentence("5 how many blocks of nodes were read for the latest lookup .. (0 at first)");
        Watched x = new Watched(16);
        Due.due("at first", x.size(5), 0);
        x.close();
        x.put(17, 1);
        x.close();
        x.put(62, 2);
        x.close();
        x.prove(0, 0, 17, 1);
        Due.due("a leaf alone", x.size(5), 1);
        x.prove(0, 0, 5, 1);
        Due.due("the leaf of another name", x.size(5), 1);
        x.prove(0, 0, 17, 2);
        Due.due("six inner nodes and a leaf", x.size(5), 7);
        x.prove(0, 0, 36, 2);
        Due.due("an inner node, and nothing", x.size(5), 1);
        x.prove(0, 0, 43, 2);
        Due.due("five inner nodes, and nothing", x.size(5), 5);
        x.prove(0, 1, 0, 2);
        x.prove(0, 2, 0, 2);
        x.prove(0, 0, 43, 3);
        Due.due("no lookup since", x.size(5), 5);
        x.prove(0, 0, 17, 0);
        Due.due("the empty map", x.size(5), 0);
    }

    private static void sizeOfStopped() {
        Due.sentence("6 whether the machine has stopped (1 or 0)");
        Watched x = new Watched(16);
        x.fuse(1);
        Due.due("with a fuse", x.size(6), 0);
        x.close();
        Due.due("stopped", x.size(6), 1);
        x.put(5, 1);
        x.close();
        x.fuse(1);
        Due.due("still stopped", x.size(6), 1);
        x.restart();
        Due.due("started again", x.size(6), 0);
    }
}
