/** Promises 20 and 21: two different inputs with one digest, out of two accepted lookups. */
public final class ExtractTest {
    public static void main(String[] args) {
        leavesThatDiffer();
        innerAgainstLeaf();
        innerNodesThatDiffer();
        differenceBelowTheRoot();
        leafOfAnotherName();
        leavesThatDifferInTheNameAlone();
        leafAgainstNothingBelow();
        refusals();
        latestStays();
        Due.end();
    }

    /** With width 4, hash(1, 3, 7) and hash(1, 3, 8) are both 6. */
    private static void leavesThatDiffer() {
        Watched x = new Watched(4);
        Due.fill(x, 0, 0, 3, 7);
        Due.fill(x, 1, 0, 3, 8);
        Due.due("extract()", x.extract(0, 1, 3, 6), true);
        clash(x, 1, 3, 7, 1, 3, 8);
        Due.due("extract() the other way", x.extract(1, 0, 3, 6), true);
        clash(x, 1, 3, 8, 1, 3, 7);
        Due.due("clash(6)", x.clash(6), 0);
        Due.due("clash(-1)", x.clash(-1), 0);
    }

    private static void clash(Watched x, int... want) {
        for (int i = 0; i < 6; i++) {
            Due.due("clash(" + i + ")", x.clash(i), want[i]);
        }
        int one = x.hash(x.clash(0), x.clash(1), x.clash(2));
        int other = x.hash(x.clash(3), x.clash(4), x.clash(5));
        Due.due("the digests are one", one, other);
    }

    private static int otherFor(Watched x, int left, int digest) {
        for (int other = 0; other < 100000; other++) {
            if (x.hash(2, left, other) == digest) {
                return other;
            }
        }
        return -1;
    }

    /** Name 5 has the index 000100: its part is the first one. */
    private static void innerAgainstLeaf() {
        Watched x = new Watched(8);
        int root = x.hash(1, 5, 77);
        int other = otherFor(x, x.hash(1, 5, 78), root);
        Due.fill(x, 0, 0, 5, 77);
        Due.fill(x, 2, 1, 5, 78, other);
        Due.due("a leaf is accepted", x.check(0, 5, root), 77);
        Due.due("an inner node is accepted", x.check(2, 5, root), 78);
        Due.due("extract()", x.extract(0, 2, 5, root), true);
        clash(x, 1, 5, 77, 2, x.hash(1, 5, 78), other);
        Due.due("extract() the other way", x.extract(2, 0, 5, root), true);
        clash(x, 2, x.hash(1, 5, 78), other, 1, 5, 77);
    }

    private static void innerNodesThatDiffer() {
        Watched x = new Watched(8);
        int first = x.hash(1, 5, 77);
        int second = x.hash(1, 5, 78);
        int root = x.hash(2, first, 200);
        int other = otherFor(x, second, root);
        Due.fill(x, 0, 1, 5, 77, 200);
        Due.fill(x, 1, 1, 5, 78, other);
        Due.due("extract()", x.extract(0, 1, 5, root), true);
        clash(x, 2, first, 200, 2, second, other);
        Due.fill(x, 1, 1, 5, 77, 200);
        Due.due("extract() of the same", x.extract(0, 1, 5, root), false);
        clash(x, 2, first, 200, 2, second, other);
    }

    /** Name 1 has the index 48, 110000. */
    private static void differenceBelowTheRoot() {
        Watched x = new Watched(4);
        int a = 1;
        int b = 2;
        while (x.hash(1, 1, a) != x.hash(1, 1, b)) {
            b++;
        }
        int leaf = x.hash(1, 1, a);
        int root = x.hash(2, 9, x.hash(2, 8, x.hash(2, leaf, 7)));
        Due.fill(x, 0, 3, 1, a, 9, 8, 7);
        Due.fill(x, 1, 3, 1, b, 9, 8, 7);
        Due.due("check() of the first", x.check(0, 1, root), a);
        Due.due("check() of the second", x.check(1, 1, root), b);
        Due.due("extract()", x.extract(0, 1, 1, root), true);
        clash(x, 1, 1, a, 1, 1, b);
        int inner = x.hash(2, 8, x.hash(2, leaf, 7));
        int other = 10;
        while (x.hash(2, 8, x.hash(2, leaf, other)) != inner
                || x.hash(2, leaf, other) == x.hash(2, leaf, 7)) {
            other++;
        }
        Due.fill(x, 1, 3, 1, b, 9, 8, other);
        Due.due("extract() of inner nodes", x.extract(0, 1, 1, root), true);
        clash(x, 2, 8, x.hash(2, leaf, 7), 2, 8, x.hash(2, leaf, other));
    }

    /** Names 5 and 12 have the indices 000100 and 000111. */
    private static void leafOfAnotherName() {
        Watched x = new Watched(4);
        int key = 1;
        while (x.hash(1, 12, key) != x.hash(1, 5, 77)) {
            key++;
        }
        Due.fill(x, 0, 0, 5, 77);
        Due.fill(x, 3, 0, 12, key);
        int root = x.hash(1, 5, 77);
        Due.due("one says a key", x.check(0, 5, root), 77);
        Due.due("the other that there is none", x.check(3, 5, root), 0);
        Due.due("extract()", x.extract(3, 0, 5, root), true);
        clash(x, 1, 12, key, 1, 5, 77);
        Due.due("asked for a third name both say 0", x.extract(3, 0, 1, root), false);
    }

    private static void leavesThatDifferInTheNameAlone() {
        Watched x = new Watched(4);
        int key = 1;
        while (x.hash(1, 12, key) != x.hash(1, 5, key)) {
            key++;
        }
        Due.fill(x, 0, 0, 12, key);
        Due.fill(x, 1, 0, 5, key);
        Due.due("extract()", x.extract(0, 1, 5, x.hash(1, 5, key)), true);
        clash(x, 1, 12, key, 1, 5, key);
    }

    private static void leafAgainstNothingBelow() {
        Watched x = new Watched(8);
        int root = x.hash(1, 5, 77);
        int other = otherFor(x, 0, root);
        Due.fill(x, 0, 0, 5, 77);
        Due.fill(x, 1, 1, -1, 0, other);
        Due.due("check() of nothing", x.check(1, 5, root), 0);
        Due.due("extract()", x.extract(1, 0, 5, root), true);
        clash(x, 2, 0, other, 1, 5, 77);
    }

    private static void refusals() {
        Watched x = new Watched(4);
        Due.fill(x, 0, 0, 3, 7);
        Due.fill(x, 1, 0, 3, 8);
        Due.due("another root", x.extract(0, 1, 3, 5), false);
        Due.due("another name: both say 0", x.extract(0, 1, 4, 6), false);
        Due.due("no name -1", x.extract(0, 1, -1, 6), false);
        Due.due("no name 64", x.extract(0, 1, 64, 6), false);
        Due.due("no buffer -1", x.extract(-1, 1, 3, 6), false);
        Due.due("no buffer 4", x.extract(0, 4, 3, 6), false);
        Due.due("an empty first buffer", x.extract(2, 1, 3, 6), false);
        Due.due("an empty second buffer", x.extract(0, 2, 3, 6), false);
        Due.due("one buffer twice", x.extract(0, 0, 3, 6), false);
        x.poke(1, 2, 9);
        Due.due("a second that is not accepted", x.extract(0, 1, 3, 6), false);
        Due.due("a first that is not accepted", x.extract(1, 0, 3, 6), false);
        for (int i = 0; i < 6; i++) {
            Due.due("nothing was taken out", x.clash(i), 0);
        }
        Due.fill(x, 0, 0, -1, 0);
        Due.fill(x, 1, 0, -1, 0);
        Due.due("nothing twice", x.extract(0, 1, 3, 0), false);
    }

    private static void latestStays() {
        Watched x = new Watched(4);
        Due.fill(x, 0, 0, 3, 7);
        Due.fill(x, 1, 0, 3, 8);
        x.extract(0, 1, 3, 6);
        x.trim(0, 0);
        Due.due("check() between", x.check(1, 3, 6), 8);
        Due.due("extract() refused", x.extract(0, 1, 3, 6), false);
        clash(x, 1, 3, 7, 1, 3, 8);
        x.fuse(1);
        x.close();
        Due.fill(x, 0, 0, 3, 13);
        Due.due("extract() when stopped", x.extract(0, 1, 3, 6), true);
        clash(x, 1, 3, 13, 1, 3, 8);
        x.restart();
        clash(x, 1, 3, 13, 1, 3, 8);
    }
}
