/** Promises 20 and 21: a test for each sentence that names a boundary case. */
public final class ExtractEdgesTest {
    private static final int MIN = Made.MIN;
    private static final int MAX = Made.MAX;

    /** So small that another input with the same digest is soon found. */
    private static final int WIDTH = 4;
    private static final PlainDirectory PLAIN = new PlainDirectory(WIDTH);

    /** The index of name 2 is 010101, and that of name 28 010111. */
    private static final int NAME = 2;
    private static final int[] BITS = {0, 1, 0, 1, 0, 1};
    private static final int KEY = 8;
    private static final int[] OTHERS = {21, 22, 23, 24, 25, 26};
    private static final int[] DIGESTS = digests();

    public static void main(String[] args) {
        leafThatEndsAtEachPrefix();
        partsThatDifferAtEachPrefix();
        nothingBelowEachPrefix();
        firstDifferenceOfSeveral();
        differenceInTheFirstIntAlone();
        differenceInTheSecondIntAlone();
        differenceInTheThirdIntAlone();
        firstOfTheTwoNotAccepted();
        secondOfTheTwoNotAccepted();
        bothSayTheSameKey();
        bothSayThatThereIsNone();
        oneBufferTwice();
        keyAgainstNone();
        noSuchBufferToExtract();
        noSuchNameToExtract();
        extractWhenStopped();
        noneTakenOutYet();
        clashOfAnyOtherNumber();
        latestOnesTakenOut();
        falseKeepsWhatWasTakenOut();
        Due.end();
    }

    /** The digests of the lookup of the name with six bits, from the root on. */
    private static int[] digests() {
        int[] digests = new int[7];
        digests[6] = PLAIN.hash(1, NAME, KEY);
        for (int i = 5; i >= 0; i--) {
            digests[i] = join(i, digests[i + 1], OTHERS[i]);
        }
        return digests;
    }

    private static int join(int bit, int digest, int other) {
        return BITS[bit] == 0 ? PLAIN.hash(2, digest, other) : PLAIN.hash(2, other, digest);
    }

    private static int otherKey(int name, int digest) {
        for (int key = 1; key <= 1000; key++) {
            if ((name != NAME || key != KEY) && PLAIN.hash(1, name, key) == digest) {
                return key;
            }
        }
        throw new IllegalStateException("no key found");
    }

    /** Another other part, with which what is joined at a bit has the digest there. */
    private static int otherPart(int bit, int digest) {
        for (int part = 100; part < 1100; part++) {
            if (join(bit, digest, part) == DIGESTS[bit]) {
                return part;
            }
        }
        throw new IllegalStateException("no part found");
    }

    private static Watched withHonest() {
        Watched x = new Watched(WIDTH);
        Due.fill(x, 0, 6, NAME, KEY, 21, 22, 23, 24, 25, 26);
        Due.due("the honest lookup", x.check(0, NAME, DIGESTS[0]), KEY);
        return x;
    }

    /** A lookup in buffer 1 that has the honest others before its own part, if it has one. */
    private static void forge(Watched x, int d, int leafName, int leafKey, int at, int part) {
        Due.fill(x, 1, d, leafName, leafKey);
        for (int i = 0; i < d; i++) {
            x.poke(1, 3 + i, i == at ? part : OTHERS[i]);
        }
    }

    /** The honest input at a prefix: the parts there, or at the end the leaf. */
    private static int[] honest(int at) {
        return at == 6 ? new int[] {1, NAME, KEY} : inner(at, DIGESTS[at + 1], OTHERS[at]);
    }

    private static int[] inner(int bit, int digest, int other) {
        return BITS[bit] == 0 ? new int[] {2, digest, other} : new int[] {2, other, digest};
    }

    private static void bothWays(Watched x, int[] first, int[] second) {
        Due.due("extract(0, 1)", x.extract(0, 1, NAME, DIGESTS[0]), true);
        clash(x, first, second);
        Due.due("extract(1, 0)", x.extract(1, 0, NAME, DIGESTS[0]), true);
        clash(x, second, first);
        int one = PLAIN.hash(first[0], first[1], first[2]);
        int other = PLAIN.hash(second[0], second[1], second[2]);
        Due.due("both have one digest", one, other);
    }

    private static void clash(Watched x, int[] first, int[] second) {
        for (int i = 0; i < 3; i++) {
            Due.due("clash(" + i + ")", x.clash(i), first[i]);
            Due.due("clash(" + (3 + i) + ")", x.clash(3 + i), second[i]);
        }
    }

    private static void leafThatEndsAtEachPrefix() {
        Due.sentence("or at its end (1, name, key)");
        for (int at = 0; at <= 6; at++) {
            Watched x = withHonest();
            int key = otherKey(NAME, DIGESTS[at]);
            forge(x, at, NAME, key, -1, 0);
            Due.due("check() of a leaf at " + at, x.check(1, NAME, DIGESTS[0]), key);
            bothWays(x, honest(at), new int[] {1, NAME, key});
        }
    }

    private static void partsThatDifferAtEachPrefix() {
        Due.sentence("at each prefix each has an input of H there: (2, the parts' digests)");
        for (int at = 0; at <= 5; at++) {
            Watched x = withHonest();
            int below = PLAIN.hash(1, NAME, KEY + 1);
            for (int i = 5; i > at; i--) {
                below = join(i, below, OTHERS[i]);
            }
            int part = otherPart(at, below);
            forge(x, 6, NAME, KEY + 1, at, part);
            Due.due("check() of parts at " + at, x.check(1, NAME, DIGESTS[0]), KEY + 1);
            bothWays(x, honest(at), inner(at, below, part));
        }
    }

    private static void nothingBelowEachPrefix() {
        Due.sentence("and say different things");
        for (int at = 0; at <= 5; at++) {
            Watched x = withHonest();
            int part = otherPart(at, 0);
            forge(x, at + 1, -1, 0, at, part);
            Due.due("check() of nothing at " + (at + 1), x.check(1, NAME, DIGESTS[0]), 0);
            bothWays(x, honest(at), inner(at, 0, part));
        }
    }

    /** The parts differ at prefixes 1 and 4, and the leaves too. */
    private static void firstDifferenceOfSeveral() {
        Due.sentence("The first two inputs that differ are taken out");
        Watched x = withHonest();
        int below = join(5, PLAIN.hash(1, NAME, KEY + 1), OTHERS[5]);
        below = join(4, below, 77);
        below = join(3, below, OTHERS[3]);
        below = join(2, below, OTHERS[2]);
        int part = otherPart(1, below);
        forge(x, 6, NAME, KEY + 1, 1, part);
        x.poke(1, 7, 77);
        Due.due("check()", x.check(1, NAME, DIGESTS[0]), KEY + 1);
        bothWays(x, honest(1), inner(1, below, part));
    }

    /** A leaf (1, name, key) and an inner node (2, name, key), whose first part has such a digest. */
    private static void differenceInTheFirstIntAlone() {
        Due.sentence("The first two inputs that differ are taken out");
        Watched x = new Watched(WIDTH);
        int key = 1;
        while (PLAIN.hash(1, NAME, key) != PLAIN.hash(2, NAME, key)) {
            key++;
        }
        Due.fill(x, 0, 0, NAME, key);
        int below = 1;
        while (below == key || PLAIN.hash(1, NAME, below) != NAME) {
            below++;
        }
        Due.fill(x, 1, 1, NAME, below, key);
        int root = PLAIN.hash(1, NAME, key);
        Due.due("check() of the leaf", x.check(0, NAME, root), key);
        Due.due("check() of the inner node", x.check(1, NAME, root), below);
        Due.due("extract()", x.extract(0, 1, NAME, root), true);
        clash(x, new int[] {1, NAME, key}, new int[] {2, NAME, key});
    }

    private static void differenceInTheSecondIntAlone() {
        Due.sentence("The first two inputs that differ are taken out");
        Watched x = new Watched(WIDTH);
        int key = 1;
        while (PLAIN.hash(1, NAME, key) != PLAIN.hash(1, 28, key)) {
            key++;
        }
        Due.fill(x, 0, 0, NAME, key);
        Due.fill(x, 1, 0, 28, key);
        Due.due("extract()", x.extract(0, 1, NAME, PLAIN.hash(1, NAME, key)), true);
        clash(x, new int[] {1, NAME, key}, new int[] {1, 28, key});
    }

    /** At prefix 0 the digest of the part gone to is the same, and that of the other part is not. */
    private static void differenceInTheThirdIntAlone() {
        Due.sentence("The first two inputs that differ are taken out");
        Watched x = withHonest();
        int key = otherKey(NAME, DIGESTS[6]);
        int part = otherPart(0, DIGESTS[1]);
        forge(x, 6, NAME, key, 0, part);
        Due.due("check()", x.check(1, NAME, DIGESTS[0]), key);
        bothWays(x, honest(0), new int[] {2, DIGESTS[1], part});
    }

    private static Watched withTwoLeaves() {
        Watched x = new Watched(WIDTH);
        Due.fill(x, 0, 0, NAME, KEY);
        Due.fill(x, 1, 0, NAME, otherKey(NAME, DIGESTS[6]));
        return x;
    }

    private static void noneTaken(Watched x) {
        for (int i = 0; i < 6; i++) {
            Due.due("clash(" + i + ")", x.clash(i), 0);
        }
    }

    private static void firstOfTheTwoNotAccepted() {
        Due.sentence("if both are accepted as lookups of a name against a root");
        Watched x = withTwoLeaves();
        Due.due("an empty one", x.extract(2, 1, NAME, DIGESTS[6]), false);
        x.poke(0, 3, 0);
        Due.due("a word too many", x.extract(0, 1, NAME, DIGESTS[6]), false);
        x.trim(0, 2);
        Due.due("a word too few", x.extract(0, 1, NAME, DIGESTS[6]), false);
        Due.fill(x, 0, 0, NAME, 0);
        Due.due("no key", x.extract(0, 1, NAME, DIGESTS[6]), false);
        Due.fill(x, 0, -1, NAME, KEY);
        Due.due("d is -1", x.extract(0, 1, NAME, DIGESTS[6]), false);
        Due.fill(x, 0, 0, -1, 0);
        Due.due("nothing, against another root", x.extract(0, 1, NAME, DIGESTS[6]), false);
        noneTaken(x);
    }

    private static void secondOfTheTwoNotAccepted() {
        Due.sentence("if both are accepted as lookups of a name against a root");
        Watched x = withTwoLeaves();
        Due.due("an empty one", x.extract(0, 2, NAME, DIGESTS[6]), false);
        x.poke(1, 3, 0);
        Due.due("a word too many", x.extract(0, 1, NAME, DIGESTS[6]), false);
        x.trim(1, 2);
        Due.due("a word too few", x.extract(0, 1, NAME, DIGESTS[6]), false);
        Due.fill(x, 1, 0, 64, 1);
        Due.due("no name", x.extract(0, 1, NAME, DIGESTS[6]), false);
        Due.fill(x, 1, 7, NAME, KEY, 1, 2, 3, 4, 5, 6, 7);
        Due.due("d is 7", x.extract(0, 1, NAME, DIGESTS[6]), false);
        Due.fill(x, 1, 0, -1, 0);
        Due.due("nothing, against another root", x.extract(0, 1, NAME, DIGESTS[6]), false);
        Due.due("and against its own", x.extract(0, 1, NAME, 0), false);
        noneTaken(x);
    }

    /** Two lookups that differ, but say one key: there is nothing that they contradict. */
    private static void bothSayTheSameKey() {
        Due.sentence("and say different things: true .. False otherwise");
        for (int at = 0; at <= 5; at++) {
            Watched x = withHonest();
            int part = otherPart(at, DIGESTS[at + 1]);
            forge(x, 6, NAME, KEY, at, part);
            Due.due("check()", x.check(1, NAME, DIGESTS[0]), KEY);
            Due.due("extract(0, 1)", x.extract(0, 1, NAME, DIGESTS[0]), false);
            Due.due("extract(1, 0)", x.extract(1, 0, NAME, DIGESTS[0]), false);
            noneTaken(x);
        }
    }

    private static void bothSayThatThereIsNone() {
        Due.sentence("and say different things: true .. False otherwise");
        Watched x = new Watched(WIDTH);
        Due.fill(x, 0, 0, 28, otherKey(28, DIGESTS[6]));
        Due.fill(x, 1, 0, 5, otherKey(5, DIGESTS[6]));
        Due.due("check()", x.check(0, NAME, DIGESTS[6]), 0);
        Due.due("check()", x.check(1, NAME, DIGESTS[6]), 0);
        Due.due("leaves of other names", x.extract(0, 1, NAME, DIGESTS[6]), false);
        Due.fill(x, 2, 0, -1, 0);
        Due.fill(x, 3, 0, -1, 0);
        Due.due("nothing twice", x.extract(2, 3, NAME, 0), false);
        noneTaken(x);
    }

    private static void oneBufferTwice() {
        Due.sentence("and say different things");
        Watched x = withHonest();
        Due.due("extract(0, 0)", x.extract(0, 0, NAME, DIGESTS[0]), false);
        noneTaken(x);
    }

    private static void keyAgainstNone() {
        Due.sentence("It SAYS the key, if the leaf's name is the name, and otherwise 0");
        Watched x = new Watched(WIDTH);
        int key = otherKey(28, DIGESTS[6]);
        Due.fill(x, 0, 0, NAME, KEY);
        Due.fill(x, 1, 0, 28, key);
        Due.due("the leaf of another name", x.extract(0, 1, NAME, DIGESTS[6]), true);
        clash(x, new int[] {1, NAME, KEY}, new int[] {1, 28, key});
        Due.due("asked for that name", x.extract(0, 1, 28, DIGESTS[6]), true);
        Due.due("asked for a third", x.extract(0, 1, 5, DIGESTS[6]), false);
    }

    private static void noSuchBufferToExtract() {
        Due.sentence("False otherwise");
        Watched x = withTwoLeaves();
        for (int b : new int[] {MIN, -1, 4, 5, MAX}) {
            Due.due("extract(" + b + ", 1)", x.extract(b, 1, NAME, DIGESTS[6]), false);
            Due.due("extract(0, " + b + ")", x.extract(0, b, NAME, DIGESTS[6]), false);
            Due.due("extract(" + b + ", " + b + ")", x.extract(b, b, NAME, DIGESTS[6]), false);
        }
        noneTaken(x);
        Due.due("extract(0, 1)", x.extract(0, 1, NAME, DIGESTS[6]), true);
    }

    /** With d = 0 the bits of the index are not asked, and a name that is none has no leaf. */
    private static void noSuchNameToExtract() {
        Due.sentence("False otherwise");
        for (int name : new int[] {MIN, -1, 64, 66, MAX}) {
            Watched x = withTwoLeaves();
            Due.due("name " + name, x.extract(0, 1, name, DIGESTS[6]), false);
            Due.fill(x, 0, 0, name, otherKey(name, DIGESTS[6]));
            Due.due("a leaf of name " + name, x.extract(0, 1, name, DIGESTS[6]), false);
            noneTaken(x);
        }
    }

    private static void extractWhenStopped() {
        Due.sentence("(This and what follows are answered .. though the machine has stopped");
        Watched x = withTwoLeaves();
        x.fuse(1);
        x.close();
        Due.due("extract()", x.extract(0, 1, NAME, DIGESTS[6]), true);
        int[] second = {1, NAME, otherKey(NAME, DIGESTS[6])};
        clash(x, new int[] {1, NAME, KEY}, second);
        x.restart();
        clash(x, new int[] {1, NAME, KEY}, second);
    }

    private static void noneTakenOutYet() {
        Due.sentence("0 when there were none yet");
        Watched x = withTwoLeaves();
        noneTaken(x);
        x.check(0, NAME, DIGESTS[6]);
        x.check(1, NAME, DIGESTS[6]);
        noneTaken(x);
        x.extract(0, 1, NAME, DIGESTS[6] ^ 1);
        noneTaken(x);
    }

    private static void clashOfAnyOtherNumber() {
        Due.sentence("0 .. for any other number");
        Watched x = withTwoLeaves();
        int[] others = {MIN, -2, -1, 6, 7, 12, MAX};
        for (int i : others) {
            Due.due("clash(" + i + ")", x.clash(i), 0);
        }
        x.extract(0, 1, NAME, DIGESTS[6]);
        for (int i : others) {
            Due.due("clash(" + i + ")", x.clash(i), 0);
        }
        Due.due("clash(0)", x.clash(0), 1);
        Due.due("clash(5)", x.clash(5), otherKey(NAME, DIGESTS[6]));
    }

    private static void latestOnesTakenOut() {
        Due.sentence("Of the inputs that extract() took out latest");
        Watched x = withTwoLeaves();
        x.extract(0, 1, NAME, DIGESTS[6]);
        int key = otherKey(28, DIGESTS[6]);
        Due.fill(x, 2, 0, 28, key);
        x.extract(2, 0, NAME, DIGESTS[6]);
        clash(x, new int[] {1, 28, key}, new int[] {1, NAME, KEY});
        x.poke(2, 2, 1);
        x.trim(0, 0);
        clash(x, new int[] {1, 28, key}, new int[] {1, NAME, KEY});
    }

    private static void falseKeepsWhatWasTakenOut() {
        Due.sentence("A call that is refused, or answers false, changes nothing");
        Watched x = withTwoLeaves();
        int[] first = {1, NAME, KEY};
        int[] second = {1, NAME, otherKey(NAME, DIGESTS[6])};
        x.extract(0, 1, NAME, DIGESTS[6]);
        Due.due("both the same", x.extract(1, 1, NAME, DIGESTS[6]), false);
        clash(x, first, second);
        Due.due("another root", x.extract(1, 0, NAME, DIGESTS[6] ^ 1), false);
        clash(x, first, second);
        Due.due("no buffer", x.extract(1, 4, NAME, DIGESTS[6]), false);
        clash(x, first, second);
        Due.due("no name", x.extract(1, 0, 64, DIGESTS[6]), false);
        clash(x, first, second);
        x.trim(1, 2);
        Due.due("a first one not accepted", x.extract(1, 0, NAME, DIGESTS[6]), false);
        Due.due("a second one not accepted", x.extract(0, 1, NAME, DIGESTS[6]), false);
        clash(x, first, second);
    }
}
