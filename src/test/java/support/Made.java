/** Directories in the states that tests begin with. */
final class Made {
    static final int MIN = Integer.MIN_VALUE;
    static final int MAX = Integer.MAX_VALUE;

    private Made() {
    }

    /** Every epoch gives name 5 another key: 2 blocks an epoch. */
    static Watched epochs(int width, int count) {
        Watched x = new Watched(width);
        for (int e = 0; e < count; e++) {
            x.put(5, e + 1);
            x.close();
        }
        return x;
    }

    /** All 64 names are 127 nodes: with its checkpoint an epoch of them is 128 blocks. */
    static void putAll(Watched x, int key) {
        for (int name = 0; name < 64; name++) {
            x.put(name, key);
        }
    }

    /**
     * Two epochs of all names, 256 blocks. From then on a name put is 7 nodes, and with the checkpoint
     * 8 blocks; names 17 and 62, whose indices are 0 and 1, are together 9.
     */
    static Watched blocks256() {
        Watched x = new Watched(16);
        putAll(x, 1);
        x.close();
        putAll(x, 2);
        x.close();
        return x;
    }

    static Watched blocks292() {
        Watched x = blocks256();
        for (int i = 0; i < 4; i++) {
            x.put(17, 10 + i);
            x.put(62, 10 + i);
            x.close();
        }
        return x;
    }

    /**
     * Puts names 5, 7 and 9, whose indices are 000100, 001110 and 011000: the leaves of 5 and 7, the
     * node 00, the leaf of 9, the node 0, the empty prefix and the checkpoint are 7 blocks.
     */
    static void putThree(Watched x, int key) {
        x.put(9, key + 2);
        x.put(7, key + 1);
        x.put(5, key);
    }
}
