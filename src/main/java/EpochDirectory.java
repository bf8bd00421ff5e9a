/**
 * A directory of names and their keys that can be witnessed: every epoch's map is a tree of
 * digests, the epochs' digests are a second tree, and rows of words prove what they held.
 *
 * <p>Every array is made with the object and used again, so no call makes an object.
 */
public final class EpochDirectory {
    public static final int DOWN = -9;
    public static final int FULL = -2;

    private static final int REFUSED = -1;
    private static final int NOTHING = -1;
    private static final int ABSENT = -2;

    private static final int NAMES = 64;
    private static final int BITS = 6;
    private static final int GREATEST_KEY = 1000000;
    private static final int MOST_EPOCHS = 40;
    private static final int MOST_BLOCKS = 300;
    private static final int MOST_WORDS = 30;
    private static final int BUFFERS = 4;
    private static final int LONGEST_FUSE = 100;

    /** A prefix is numbered by its bits behind a leading 1, so that these are all of them, and 0. */
    private static final int PREFIXES = 128;
    private static final int EMPTY_PREFIX = 1;

    private static final int LEAF = 1;
    private static final int INNER = 2;
    private static final int CHECKPOINT = 3;

    private static final int HASH_LEAF = 1;
    private static final int HASH_INNER = 2;
    private static final int HASH_EPOCH = 3;
    private static final int HASH_ROW = 4;

    private static final int LOOKUP = 0;
    private static final int INCLUSION = 1;
    private static final int CONSISTENCY = 2;
    private static final int LOOKUP_START = 3;

    private static final int INPUT = 3;

    private final Digester digester;
    private final NameMap map;
    private final Store store;
    private final Plan plan;
    private final History history;
    private final Way way;
    private final Buffer[] buffers;
    private final LookupCheck firstCheck;
    private final LookupCheck secondCheck;
    private final HistoryCheck historyCheck;
    private final int[] clashing;
    private boolean stopped;
    private int fuseLeft;
    private int wordsWritten;
    private int blocksRead;
    private boolean auditorHasSeen;
    private int seenEpoch;
    private int seenHead;

    public EpochDirectory(int width) {
        digester = new Digester(width);
        map = new NameMap();
        store = new Store(digester);
        plan = new Plan();
        history = new History(digester);
        way = new Way();
        buffers = new Buffer[BUFFERS];
        for (int b = 0; b < BUFFERS; b++) {
            buffers[b] = new Buffer();
        }
        firstCheck = new LookupCheck(digester);
        secondCheck = new LookupCheck(digester);
        historyCheck = new HistoryCheck(digester);
        clashing = new int[2 * INPUT];
    }

    public int hash(int t, int x, int y) {
        return digester.digest(t, x, y);
    }

    public int put(int name, int key) {
        if (stopped) {
            return DOWN;
        }
        if (!isName(name) || !isKey(key)) {
            return REFUSED;
        }
        map.give(name, key);
        return map.openCount;
    }

    public int close() {
        if (stopped) {
            return DOWN;
        }
        plan.draw(map, store);
        if (history.count >= MOST_EPOCHS || store.count + plan.steps + 1 > MOST_BLOCKS) {
            return FULL;
        }
        for (int step = 0; step < plan.steps && !stopped; step++) {
            writeNode(plan.order[step]);
            burnFuse();
        }
        if (!stopped) {
            closeEpoch();
            burnFuse();
        }
        return stopped ? DOWN : history.count - 1;
    }

    public boolean fuse(int k) {
        if (stopped || k < 1 || k > LONGEST_FUSE) {
            return false;
        }
        fuseLeft = k;
        return true;
    }

    public int restart() {
        if (!stopped) {
            return REFUSED;
        }
        stopped = false;
        return store.cutOff();
    }

    public int root(int e) {
        return history.isClosed(e) ? history.roots[e] : REFUSED;
    }

    public int head(int e) {
        return history.isClosed(e) ? history.heads[e] : REFUSED;
    }

    public int block(int i, int what) {
        if (!store.isBlock(i)) {
            return ABSENT;
        }
        switch (what) {
            case 0:
                return store.kinds[i];
            case 1:
                return store.firsts[i];
            case 2:
                return store.seconds[i];
            default:
                return ABSENT;
        }
    }

    public int size(int what) {
        switch (what) {
            case 0:
                return history.count;
            case 1:
                return store.count;
            case 2:
                return map.openCount;
            case 3:
                return map.closedCount;
            case 4:
                return wordsWritten;
            case 5:
                return blocksRead;
            case 6:
                return stopped ? 1 : 0;
            default:
                return REFUSED;
        }
    }

    public int prove(int b, int kind, int x, int y) {
        if (stopped) {
            return DOWN;
        }
        Buffer buffer = bufferAt(b);
        if (buffer == null || !history.isClosed(y)) {
            return REFUSED;
        }
        if (kind == LOOKUP) {
            return isName(x) ? proveLookup(buffer, x, y) : REFUSED;
        }
        if (kind != INCLUSION && kind != CONSISTENCY || x < 0 || x > y) {
            return REFUSED;
        }
        return proveHistory(buffer, kind, x, y);
    }

    public int word(int b, int i) {
        Buffer buffer = bufferAt(b);
        if (buffer == null) {
            return ABSENT;
        }
        if (i == -1) {
            return buffer.count;
        }
        return i >= 0 && i < buffer.count ? buffer.words[i] : ABSENT;
    }

    public boolean poke(int b, int i, int w) {
        Buffer buffer = bufferAt(b);
        return buffer != null && buffer.replaceOrAppend(i, w);
    }

    public boolean trim(int b, int n) {
        Buffer buffer = bufferAt(b);
        if (buffer == null || n < 0 || n > buffer.count) {
            return false;
        }
        buffer.count = n;
        return true;
    }

    public int check(int b, int name, int root) {
        Buffer buffer = bufferAt(b);
        if (buffer == null || !isName(name) || !firstCheck.accepts(buffer, name, root)) {
            return REFUSED;
        }
        return firstCheck.said;
    }

    public boolean included(int b, int e, int n, int root, int head) {
        Buffer buffer = bufferAt(b);
        return buffer != null && historyCheck.acceptsInclusion(buffer, e, n, root, head);
    }

    public boolean consistent(int b, int m, int n, int old, int head) {
        Buffer buffer = bufferAt(b);
        return buffer != null && historyCheck.acceptsConsistency(buffer, m, n, old, head);
    }

    public boolean follow(int b, int n, int head) {
        boolean believed = auditorHasSeen
                ? consistent(b, seenEpoch, n, seenHead, head)
                : n >= 0 && n < MOST_EPOCHS;
        if (believed) {
            auditorHasSeen = true;
            seenEpoch = n;
            seenHead = head;
        }
        return believed;
    }

    public int seen(int what) {
        if (!auditorHasSeen) {
            return REFUSED;
        }
        switch (what) {
            case 0:
                return seenEpoch;
            case 1:
                return seenHead;
            default:
                return REFUSED;
        }
    }

    public boolean extract(int b, int c, int name, int root) {
        Buffer first = bufferAt(b);
        Buffer second = bufferAt(c);
        if (first == null || second == null || !isName(name)) {
            return false;
        }
        return firstCheck.accepts(first, name, root)
                && secondCheck.accepts(second, name, root)
                && firstCheck.said != secondCheck.said
                && takeOutFirstDifference();
    }

    public int clash(int i) {
        return i >= 0 && i < clashing.length ? clashing[i] : 0;
    }

    private static boolean isName(int name) {
        return name >= 0 && name < NAMES;
    }

    private static boolean isKey(int key) {
        return key >= 1 && key <= GREATEST_KEY;
    }

    private static int indexOf(int name) {
        return (37 * name + 11) % NAMES;
    }

    /** Bit 0 is the highest one of the index. */
    private static int bitOf(int index, int bit) {
        return index >> BITS - 1 - bit & 1;
    }

    private Buffer bufferAt(int b) {
        return b >= 0 && b < BUFFERS ? buffers[b] : null;
    }

    private void writeNode(int prefix) {
        if (plan.isInner(prefix)) {
            store.writeInner(prefix, plan.blocks[2 * prefix], plan.blocks[2 * prefix + 1]);
        } else {
            int name = plan.someName[prefix];
            store.writeLeaf(name, map.keyOf(name));
        }
    }

    private void closeEpoch() {
        int top = plan.blocks[EMPTY_PREFIX];
        store.writeCheckpoint(history.count, top);
        history.add(top, store.digestOf(top));
        map.keepOpen();
    }

    private void burnFuse() {
        if (fuseLeft == 0) {
            return;
        }
        fuseLeft--;
        if (fuseLeft == 0) {
            stopped = true;
            map.dropOpen();
        }
    }

    private int proveLookup(Buffer buffer, int name, int epoch) {
        int index = indexOf(name);
        int block = history.tops[epoch];
        int depth = 0;
        buffer.startWith(LOOKUP_START);
        while (depth < BITS && store.isOfKind(block, INNER)) {
            int bit = bitOf(index, depth);
            buffer.append(store.digestOf(store.partOf(block, 1 - bit)));
            block = store.partOf(block, bit);
            depth++;
        }
        boolean atLeaf = store.isOfKind(block, LEAF);
        int leafName = atLeaf ? store.firsts[block] : NOTHING;
        int leafKey = atLeaf ? store.seconds[block] : 0;
        buffer.words[0] = depth;
        buffer.words[1] = leafName;
        buffer.words[2] = leafKey;
        wordsWritten = buffer.count;
        blocksRead = atLeaf ? depth + 1 : depth;
        return leafName == name ? leafKey : 0;
    }

    private int proveHistory(Buffer buffer, int kind, int x, int y) {
        way.go(x, y, kind == INCLUSION);
        buffer.startWith(0);
        if (kind == CONSISTENCY && way.start > 0) {
            buffer.append(history.rowDigest(way.start, way.end));
        }
        for (int step = way.steps - 1; step >= 0; step--) {
            buffer.append(history.rowDigest(way.otherStarts[step], way.otherEnds[step]));
        }
        wordsWritten = buffer.count;
        return buffer.count;
    }

    /**
     * Both lookups were accepted against one root, so their digests are the same at every prefix
     * down to the first inputs that differ. Nothing has the digest 0 and no input has it: where one
     * ended with nothing the other would too, and both would say the same. So neither does so before
     * the difference, and the inputs compared are always there.
     */
    private boolean takeOutFirstDifference() {
        int shared = Math.min(firstCheck.depth, secondCheck.depth);
        for (int depth = 0; depth <= shared; depth++) {
            if (firstCheck.differsFrom(secondCheck, depth)) {
                firstCheck.copyInput(depth, clashing, 0);
                secondCheck.copyInput(depth, clashing, INPUT);
                return true;
            }
        }
        return false;
    }

    /** The function H for one width. */
    private static final class Digester {
        private static final int FACTOR = 73244475;
        private static final int LEAST_WIDTH = 4;
        private static final int GREATEST_WIDTH = 31;

        private final int shift;

        Digester(int width) {
            shift = 32 - Math.max(LEAST_WIDTH, Math.min(GREATEST_WIDTH, width));
        }

        int digest(int t, int x, int y) {
            int a = t * FACTOR + x;
            a = (a ^ a >>> 16) * FACTOR + y;
            a = (a ^ a >>> 16) * FACTOR;
            a = a ^ a >>> 16;
            int top = a >>> shift;
            return top == 0 ? 1 : top;
        }
    }

    /** The map of the epoch closed last, and apart from it what was put since: key 0 is none. */
    private static final class NameMap {
        private final int[] closedKeys = new int[NAMES];
        private final int[] openKeys = new int[NAMES];
        private int closedCount;
        private int openCount;

        void give(int name, int key) {
            if (openKeys[name] == 0) {
                openCount++;
            }
            openKeys[name] = key;
        }

        boolean wasPut(int name) {
            return openKeys[name] != 0;
        }

        int keyOf(int name) {
            return openKeys[name] != 0 ? openKeys[name] : closedKeys[name];
        }

        void keepOpen() {
            for (int name = 0; name < NAMES; name++) {
                if (wasPut(name) && closedKeys[name] == 0) {
                    closedCount++;
                }
                closedKeys[name] = keyOf(name);
            }
            dropOpen();
        }

        void dropOpen() {
            for (int name = 0; name < NAMES; name++) {
                openKeys[name] = 0;
            }
            openCount = 0;
        }
    }

    /** The blocks, and where the latest block of each node of the closed epochs stands. */
    private static final class Store {
        private final Digester digester;
        private final int[] kinds = new int[MOST_BLOCKS];
        private final int[] firsts = new int[MOST_BLOCKS];
        private final int[] seconds = new int[MOST_BLOCKS];
        private final int[] digests = new int[MOST_BLOCKS];
        private final int[] places = new int[MOST_BLOCKS];
        private final int[] latest = new int[PREFIXES];
        private int count;
        private int checkpointed;

        Store(Digester digester) {
            this.digester = digester;
        }

        boolean isBlock(int i) {
            return i >= 0 && i < count;
        }

        boolean isOfKind(int block, int kind) {
            return isBlock(block) && kinds[block] == kind;
        }

        int digestOf(int block) {
            return isBlock(block) ? digests[block] : 0;
        }

        int partOf(int block, int bit) {
            return bit == 0 ? firsts[block] : seconds[block];
        }

        /** A leaf may move to another prefix and keep its block: its place is its whole index. */
        static int placeOfLeaf(int name) {
            return NAMES + indexOf(name);
        }

        void writeLeaf(int name, int key) {
            int digest = digester.digest(HASH_LEAF, name, key);
            append(LEAF, name, key, digest, placeOfLeaf(name));
        }

        void writeInner(int prefix, int zero, int one) {
            int digest = digester.digest(HASH_INNER, digestOf(zero), digestOf(one));
            append(INNER, zero, one, digest, prefix);
        }

        /** Only now are the new blocks the latest ones: a stop before this loses them. */
        void writeCheckpoint(int epoch, int top) {
            for (int i = checkpointed; i < count; i++) {
                latest[places[i]] = i;
            }
            append(CHECKPOINT, epoch, top, 0, 0);
            checkpointed = count;
        }

        int cutOff() {
            int cut = count - checkpointed;
            count = checkpointed;
            return cut;
        }

        private void append(int kind, int first, int second, int digest, int place) {
            if (count >= MOST_BLOCKS) {
                return;
            }
            kinds[count] = kind;
            firsts[count] = first;
            seconds[count] = second;
            digests[count] = digest;
            places[count] = place;
            count++;
        }
    }

    /** The tree of the new map: where each node's block stands or will stand, and what to write. */
    private static final class Plan {
        private final int[] nameCounts = new int[PREFIXES];
        private final int[] someName = new int[PREFIXES];
        private final boolean[] touched = new boolean[PREFIXES];
        private final int[] blocks = new int[PREFIXES];
        private final int[] order = new int[PREFIXES];
        private int steps;

        /** Changes the plan alone, so that a closing can still be refused. */
        void draw(NameMap map, Store store) {
            countNames(map);
            steps = 0;
            for (int index = 0; index < NAMES; index++) {
                int prefix = NAMES + index;
                settle(prefix, store);
                for (int depth = BITS; depth > 0 && prefix % 2 == 1; depth--) {
                    prefix = prefix / 2;
                    settle(prefix, store);
                }
            }
        }

        boolean isInner(int prefix) {
            return prefix < NAMES && nameCounts[prefix] > 1;
        }

        private boolean isNode(int prefix) {
            return nameCounts[prefix] > 0 && (prefix == EMPTY_PREFIX || isInner(prefix / 2));
        }

        private void countNames(NameMap map) {
            for (int name = 0; name < NAMES; name++) {
                int prefix = NAMES + indexOf(name);
                nameCounts[prefix] = map.keyOf(name) == 0 ? 0 : 1;
                someName[prefix] = name;
                touched[prefix] = map.wasPut(name);
            }
            for (int prefix = NAMES - 1; prefix >= EMPTY_PREFIX; prefix--) {
                int zero = 2 * prefix;
                int one = zero + 1;
                nameCounts[prefix] = nameCounts[zero] + nameCounts[one];
                someName[prefix] = nameCounts[zero] > 0 ? someName[zero] : someName[one];
                touched[prefix] = touched[zero] || touched[one];
            }
        }

        private void settle(int prefix, Store store) {
            if (!isNode(prefix)) {
                blocks[prefix] = NOTHING;
            } else if (touched[prefix]) {
                blocks[prefix] = store.count + steps;
                order[steps] = prefix;
                steps++;
            } else if (isInner(prefix)) {
                blocks[prefix] = store.latest[prefix];
            } else {
                blocks[prefix] = store.latest[Store.placeOfLeaf(someName[prefix])];
            }
        }
    }

    /** The closed epochs. */
    private static final class History {
        private final Digester digester;
        private final int[] tops = new int[MOST_EPOCHS];
        private final int[] roots = new int[MOST_EPOCHS];
        private final int[] leaves = new int[MOST_EPOCHS];
        private final int[] heads = new int[MOST_EPOCHS];
        private final int[] row = new int[MOST_EPOCHS];
        private int count;

        History(Digester digester) {
            this.digester = digester;
        }

        boolean isClosed(int epoch) {
            return epoch >= 0 && epoch < count;
        }

        void add(int top, int root) {
            if (count >= MOST_EPOCHS) {
                return;
            }
            tops[count] = top;
            roots[count] = root;
            leaves[count] = digester.digest(HASH_EPOCH, root, count);
            heads[count] = rowDigest(0, count + 1);
            count++;
        }

        /**
         * Joining neighbours again and again, an odd last one left as it is, makes the same tree as
         * splitting at the greatest power of two.
         */
        int rowDigest(int start, int end) {
            int length = end - start;
            for (int i = 0; i < length; i++) {
                row[i] = leaves[start + i];
            }
            while (length > 1) {
                int pairs = length / 2;
                for (int i = 0; i < pairs; i++) {
                    row[i] = digester.digest(HASH_ROW, row[2 * i], row[2 * i + 1]);
                }
                if (length % 2 == 1) {
                    row[pairs] = row[length - 1];
                }
                length = length - pairs;
            }
            return row[0];
        }
    }

    /** The way from a whole row of leaves down to a part of it, with the parts not gone to. */
    private static final class Way {
        private static final int MOST_STEPS = 6;

        private final int[] otherStarts = new int[MOST_STEPS];
        private final int[] otherEnds = new int[MOST_STEPS];
        private int steps;
        private int start;
        private int end;

        /** Ends at the row whose last leaf is the leaf, or if it is to be alone, at the leaf. */
        void go(int leaf, int epoch, boolean alone) {
            start = 0;
            end = epoch + 1;
            steps = 0;
            while (steps < MOST_STEPS && (end - 1 > leaf || alone && start < leaf)) {
                int middle = start + greatestPowerBelow(end - start);
                boolean toFirst = leaf < middle;
                otherStarts[steps] = toFirst ? middle : start;
                otherEnds[steps] = toFirst ? end : middle;
                start = toFirst ? start : middle;
                end = toFirst ? middle : end;
                steps++;
            }
        }

        boolean isOtherBefore(int step) {
            return otherStarts[step] < start;
        }

        private static int greatestPowerBelow(int length) {
            for (int power = 1 << MOST_STEPS - 1; power > 1; power = power / 2) {
                if (power < length) {
                    return power;
                }
            }
            return 1;
        }
    }

    /** A row of words. */
    private static final class Buffer {
        private final int[] words = new int[MOST_WORDS];
        private int count;

        /** The first words are to be filled in when the others stand. */
        void startWith(int blanks) {
            count = blanks;
        }

        void append(int word) {
            replaceOrAppend(count, word);
        }

        boolean replaceOrAppend(int i, int word) {
            if (i < 0 || i > count || i >= MOST_WORDS) {
                return false;
            }
            words[i] = word;
            count = Math.max(count, i + 1);
            return true;
        }
    }

    /** Checks a lookup, and keeps the input of H that it has at each prefix along the index. */
    private static final class LookupCheck {
        private final Digester digester;
        private final int[] inputs = new int[INPUT * (BITS + 1)];
        private int depth;
        private int said;

        LookupCheck(Digester digester) {
            this.digester = digester;
        }

        boolean accepts(Buffer buffer, int name, int root) {
            if (!hasForm(buffer, name)) {
                return false;
            }
            depth = buffer.words[0];
            said = buffer.words[1] == name ? buffer.words[2] : 0;
            return rootOf(buffer, indexOf(name)) == root;
        }

        boolean differsFrom(LookupCheck other, int at) {
            int from = INPUT * at;
            return inputs[from] != other.inputs[from]
                    || inputs[from + 1] != other.inputs[from + 1]
                    || inputs[from + 2] != other.inputs[from + 2];
        }

        void copyInput(int at, int[] target, int to) {
            for (int i = 0; i < INPUT; i++) {
                target[to + i] = inputs[INPUT * at + i];
            }
        }

        private static boolean hasForm(Buffer buffer, int name) {
            if (buffer.count < LOOKUP_START || buffer.count > LOOKUP_START + BITS
                    || buffer.words[0] != buffer.count - LOOKUP_START) {
                return false;
            }
            int leafName = buffer.words[1];
            int leafKey = buffer.words[2];
            if (leafName == NOTHING) {
                return leafKey == 0;
            }
            return isName(leafName) && isKey(leafKey)
                    && sharePrefix(indexOf(leafName), indexOf(name), buffer.words[0]);
        }

        private static boolean sharePrefix(int index, int other, int length) {
            return index >> BITS - length == other >> BITS - length;
        }

        private int rootOf(Buffer buffer, int index) {
            int digest = buffer.words[1] == NOTHING
                    ? 0
                    : keepInput(depth, HASH_LEAF, buffer.words[1], buffer.words[2]);
            for (int at = depth - 1; at >= 0; at--) {
                int other = buffer.words[LOOKUP_START + at];
                digest = bitOf(index, at) == 0
                        ? keepInput(at, HASH_INNER, digest, other)
                        : keepInput(at, HASH_INNER, other, digest);
            }
            return digest;
        }

        private int keepInput(int at, int t, int x, int y) {
            inputs[INPUT * at] = t;
            inputs[INPUT * at + 1] = x;
            inputs[INPUT * at + 2] = y;
            return digester.digest(t, x, y);
        }
    }

    /** Checks inclusions and consistencies: it knows nothing of the directory. */
    private static final class HistoryCheck {
        private final Digester digester;
        private final Way way = new Way();

        HistoryCheck(Digester digester) {
            this.digester = digester;
        }

        boolean acceptsInclusion(Buffer buffer, int e, int n, int root, int head) {
            if (!areInOrder(e, n)) {
                return false;
            }
            way.go(e, n, true);
            if (buffer.count != way.steps) {
                return false;
            }
            int made = digester.digest(HASH_EPOCH, root, e);
            for (int i = 0; i < way.steps; i++) {
                made = join(made, buffer.words[i], way.steps - 1 - i);
            }
            return made == head;
        }

        boolean acceptsConsistency(Buffer buffer, int m, int n, int old, int head) {
            if (!areInOrder(m, n)) {
                return false;
            }
            way.go(m, n, false);
            int given = way.start > 0 ? 1 : 0;
            if (buffer.count != given + way.steps) {
                return false;
            }
            int made = given == 1 ? buffer.words[0] : old;
            int madeOld = made;
            for (int i = 0; i < way.steps; i++) {
                int step = way.steps - 1 - i;
                int word = buffer.words[given + i];
                made = join(made, word, step);
                madeOld = way.isOtherBefore(step) ? join(madeOld, word, step) : madeOld;
            }
            return madeOld == old && made == head;
        }

        private static boolean areInOrder(int earlier, int later) {
            return earlier >= 0 && earlier <= later && later < MOST_EPOCHS;
        }

        private int join(int made, int other, int step) {
            return way.isOtherBefore(step)
                    ? digester.digest(HASH_ROW, other, made)
                    : digester.digest(HASH_ROW, made, other);
        }
    }
}
