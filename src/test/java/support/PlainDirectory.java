import java.util.ArrayList;
import java.util.Arrays;
import java.util.HashMap;
import java.util.List;
import java.util.Map;
import java.util.TreeMap;

/**
 * The document once more, as plainly as the Java library lets it be said: every epoch keeps a whole
 * map, prefixes are texts, and all that is told is made anew from the maps by recursion.
 */
final class PlainDirectory {
    private final int width;
    private final List<Map<Integer, Integer>> maps = new ArrayList<>();
    private final List<int[]> blocks = new ArrayList<>();
    private final List<List<Integer>> buffers = new ArrayList<>();
    private Map<String, Integer> blockOfNode = new HashMap<>();
    private Map<Integer, Integer> open = new TreeMap<>();
    private boolean stopped = false;
    private int fuseLeft = 0;
    private int wordsWritten = 0;
    private int blocksRead = 0;
    private int[] seen = null;
    private int[] clash = new int[6];

    PlainDirectory(int width) {
        this.width = width < 4 ? 4 : width > 31 ? 31 : width;
        for (int b = 0; b < 4; b++) {
            buffers.add(new ArrayList<>());
        }
    }

    int hash(int t, int x, int y) {
        int m = 73244475;
        int a = t * m + x;
        a = (a ^ (a >>> 16)) * m + y;
        a = (a ^ (a >>> 16)) * m;
        a = a ^ (a >>> 16);
        int digest = a >>> (32 - width);
        return digest == 0 ? 1 : digest;
    }

    int put(int name, int key) {
        if (stopped) {
            return -9;
        }
        if (name < 0 || name > 63 || key < 1 || key > 1000000) {
            return -1;
        }
        open.put(name, key);
        return open.size();
    }

    int close() {
        if (stopped) {
            return -9;
        }
        Map<Integer, Integer> map = new TreeMap<>(lastMap());
        map.putAll(open);
        Map<String, Integer> nodes = new HashMap<>(blockOfNode);
        List<int[]> written = new ArrayList<>();
        int top = write(map, "", nodes, written);
        written.add(new int[] {3, maps.size(), top});
        if (maps.size() == 40 || blocks.size() + written.size() > 300) {
            return -2;
        }
        if (fuseLeft > 0 && fuseLeft <= written.size()) {
            stopped = true;
        }
        int count = stopped ? fuseLeft : written.size();
        fuseLeft = stopped || fuseLeft == 0 ? 0 : fuseLeft - count;
        blocks.addAll(written.subList(0, count));
        open = new TreeMap<>();
        if (count == written.size()) {
            maps.add(map);
            blockOfNode = nodes;
        }
        return stopped ? -9 : maps.size() - 1;
    }

    private int write(Map<Integer, Integer> map, String prefix, Map<String, Integer> nodes,
            List<int[]> written) {
        List<Integer> names = namesUnder(map, prefix);
        if (names.isEmpty()) {
            return -1;
        }
        boolean isLeaf = names.size() == 1;
        String node = isLeaf ? "leaf " + names.get(0) : "inner " + prefix;
        boolean touched = false;
        for (int name : names) {
            touched |= open.containsKey(name);
        }
        if (!touched) {
            return nodes.get(node);
        }
        int[] block = {1, names.get(0), map.get(names.get(0))};
        if (!isLeaf) {
            int zero = write(map, prefix + "0", nodes, written);
            int one = write(map, prefix + "1", nodes, written);
            block = new int[] {2, zero, one};
        }
        nodes.put(node, blocks.size() + written.size());
        written.add(block);
        return blocks.size() + written.size() - 1;
    }

    private Map<Integer, Integer> lastMap() {
        return maps.isEmpty() ? new TreeMap<>() : maps.get(maps.size() - 1);
    }

    private static String indexOf(int name) {
        return Integer.toBinaryString(64 + (37 * name + 11) % 64).substring(1);
    }

    private static List<Integer> namesUnder(Map<Integer, Integer> map, String prefix) {
        List<Integer> names = new ArrayList<>();
        for (int name : map.keySet()) {
            if (indexOf(name).startsWith(prefix)) {
                names.add(name);
            }
        }
        return names;
    }

    private int digest(Map<Integer, Integer> map, String prefix) {
        List<Integer> names = namesUnder(map, prefix);
        if (names.isEmpty()) {
            return 0;
        }
        if (names.size() == 1) {
            return hash(1, names.get(0), map.get(names.get(0)));
        }
        return hash(2, digest(map, prefix + "0"), digest(map, prefix + "1"));
    }

    boolean fuse(int k) {
        if (stopped || k < 1 || k > 100) {
            return false;
        }
        fuseLeft = k;
        return true;
    }

    int restart() {
        if (!stopped) {
            return -1;
        }
        stopped = false;
        int cut = 0;
        while (!blocks.isEmpty() && blocks.get(blocks.size() - 1)[0] != 3) {
            blocks.remove(blocks.size() - 1);
            cut++;
        }
        return cut;
    }

    int root(int e) {
        return e < 0 || e >= maps.size() ? -1 : digest(maps.get(e), "");
    }

    int head(int e) {
        return e < 0 || e >= maps.size() ? -1 : row(0, e + 1);
    }

    private int row(int start, int end) {
        if (end - start == 1) {
            return hash(3, root(start), start);
        }
        int middle = start + split(end - start);
        return hash(4, row(start, middle), row(middle, end));
    }

    private static int split(int n) {
        int k = 1;
        while (k * 2 < n) {
            k *= 2;
        }
        return k;
    }

    int block(int i, int what) {
        return i < 0 || i >= blocks.size() || what < 0 || what > 2 ? -2 : blocks.get(i)[what];
    }

    int size(int what) {
        int[] sizes = {maps.size(), blocks.size(), open.size(), lastMap().size(), wordsWritten,
            blocksRead, stopped ? 1 : 0};
        return what < 0 || what >= sizes.length ? -1 : sizes[what];
    }

    int prove(int b, int kind, int x, int y) {
        if (stopped) {
            return -9;
        }
        if (b < 0 || b > 3 || kind < 0 || kind > 2 || y < 0 || y >= maps.size() || x < 0) {
            return -1;
        }
        if (kind == 0 ? x > 63 : x > y) {
            return -1;
        }
        List<Integer> words = new ArrayList<>();
        int answer = 0;
        if (kind == 0) {
            answer = lookup(words, x, maps.get(y));
        } else {
            if (kind == 1) {
                inclusion(words, x, 0, y + 1);
            } else {
                consistency(words, x, 0, y + 1);
            }
            answer = words.size();
        }
        buffers.set(b, words);
        wordsWritten = words.size();
        return answer;
    }

    private int lookup(List<Integer> words, int name, Map<Integer, Integer> map) {
        String index = indexOf(name);
        int d = 0;
        while (namesUnder(map, index.substring(0, d)).size() > 1) {
            d++;
        }
        List<Integer> there = namesUnder(map, index.substring(0, d));
        words.add(d);
        words.add(there.isEmpty() ? -1 : there.get(0));
        words.add(there.isEmpty() ? 0 : map.get(there.get(0)));
        for (int i = 0; i < d; i++) {
            String other = index.charAt(i) == '0' ? "1" : "0";
            words.add(digest(map, index.substring(0, i) + other));
        }
        blocksRead = d + there.size();
        return words.get(1) == name ? words.get(2) : 0;
    }

    /** Deepest part first, since the recursion adds its word behind that of the part gone to. */
    private void inclusion(List<Integer> words, int e, int start, int end) {
        if (end - start == 1) {
            return;
        }
        int middle = start + split(end - start);
        if (e < middle) {
            inclusion(words, e, start, middle);
            words.add(row(middle, end));
        } else {
            inclusion(words, e, middle, end);
            words.add(row(start, middle));
        }
    }

    private void consistency(List<Integer> words, int m, int start, int end) {
        if (end - 1 == m) {
            if (start != 0) {
                words.add(row(start, end));
            }
            return;
        }
        int middle = start + split(end - start);
        if (m < middle) {
            consistency(words, m, start, middle);
            words.add(row(middle, end));
        } else {
            consistency(words, m, middle, end);
            words.add(row(start, middle));
        }
    }

    int word(int b, int i) {
        if (b < 0 || b > 3) {
            return -2;
        }
        int count = buffers.get(b).size();
        return i == -1 ? count : i < 0 || i >= count ? -2 : buffers.get(b).get(i);
    }

    boolean poke(int b, int i, int w) {
        if (b < 0 || b > 3 || i < 0 || i > buffers.get(b).size() || i == 30) {
            return false;
        }
        if (i == buffers.get(b).size()) {
            buffers.get(b).add(w);
        } else {
            buffers.get(b).set(i, w);
        }
        return true;
    }

    boolean trim(int b, int n) {
        if (b < 0 || b > 3 || n < 0 || n > buffers.get(b).size()) {
            return false;
        }
        buffers.set(b, new ArrayList<>(buffers.get(b).subList(0, n)));
        return true;
    }

    int check(int b, int name, int root) {
        List<int[]> inputs = accepted(b, name, root);
        return inputs == null ? -1 : says(b, name);
    }

    private int says(int b, int name) {
        return buffers.get(b).get(1) == name ? buffers.get(b).get(2) : 0;
    }

    /** The inputs of H from the root on, or null if the lookup is not accepted. */
    private List<int[]> accepted(int b, int name, int root) {
        if (b < 0 || b > 3 || name < 0 || name > 63) {
            return null;
        }
        List<Integer> words = buffers.get(b);
        if (words.size() < 3 || words.get(0) < 0 || words.get(0) > 6
                || words.size() != 3 + words.get(0)) {
            return null;
        }
        int d = words.get(0);
        int leafName = words.get(1);
        int leafKey = words.get(2);
        boolean nothing = leafName == -1 && leafKey == 0;
        boolean leaf = leafName >= 0 && leafName <= 63 && leafKey >= 1 && leafKey <= 1000000
                && indexOf(leafName).startsWith(indexOf(name).substring(0, d));
        if (!nothing && !leaf) {
            return null;
        }
        List<int[]> inputs = new ArrayList<>();
        int digest = down(words, indexOf(name), 0, inputs);
        return digest == root ? inputs : null;
    }

    private int down(List<Integer> words, String index, int at, List<int[]> inputs) {
        if (at == words.get(0)) {
            if (words.get(1) == -1) {
                return 0;
            }
            inputs.add(new int[] {1, words.get(1), words.get(2)});
            return hash(1, words.get(1), words.get(2));
        }
        int[] input = {2, 0, 0};
        inputs.add(input);
        int part = down(words, index, at + 1, inputs);
        boolean zero = index.charAt(at) == '0';
        input[1] = zero ? part : words.get(3 + at);
        input[2] = zero ? words.get(3 + at) : part;
        return hash(2, input[1], input[2]);
    }

    boolean included(int b, int e, int n, int root, int head) {
        if (b < 0 || b > 3 || e < 0 || e > n || n > 39) {
            return false;
        }
        List<Integer> left = new ArrayList<>(buffers.get(b));
        Integer made = joined(left, e, 0, n + 1, hash(3, root, e));
        return made != null && left.isEmpty() && made == head;
    }

    private Integer joined(List<Integer> left, int e, int start, int end, int leaf) {
        if (end - start == 1) {
            return leaf;
        }
        int middle = start + split(end - start);
        boolean first = e < middle;
        Integer part = first
                ? joined(left, e, start, middle, leaf)
                : joined(left, e, middle, end, leaf);
        if (part == null || left.isEmpty()) {
            return null;
        }
        int other = left.remove(0);
        return first ? hash(4, part, other) : hash(4, other, part);
    }

    boolean consistent(int b, int m, int n, int old, int head) {
        if (b < 0 || b > 3 || m < 0 || m > n || n > 39) {
            return false;
        }
        List<Integer> left = new ArrayList<>(buffers.get(b));
        int[] both = heads(left, m, 0, n + 1, old);
        return both != null && left.isEmpty() && both[0] == old && both[1] == head;
    }

    private int[] heads(List<Integer> left, int m, int start, int end, int old) {
        if (end - 1 == m) {
            if (start == 0) {
                return new int[] {old, old};
            }
            if (left.isEmpty()) {
                return null;
            }
            int word = left.remove(0);
            return new int[] {word, word};
        }
        int middle = start + split(end - start);
        boolean first = m < middle;
        int[] part = first
                ? heads(left, m, start, middle, old)
                : heads(left, m, middle, end, old);
        if (part == null || left.isEmpty()) {
            return null;
        }
        int other = left.remove(0);
        return first
                ? new int[] {part[0], hash(4, part[1], other)}
                : new int[] {hash(4, other, part[0]), hash(4, other, part[1])};
    }

    boolean follow(int b, int n, int head) {
        boolean fine = seen == null ? n >= 0 && n < 40 : consistent(b, seen[0], n, seen[1], head);
        if (fine) {
            seen = new int[] {n, head};
        }
        return fine;
    }

    int seen(int what) {
        return seen == null || what < 0 || what > 1 ? -1 : seen[what];
    }

    boolean extract(int b, int c, int name, int root) {
        List<int[]> first = accepted(b, name, root);
        List<int[]> second = accepted(c, name, root);
        if (first == null || second == null || says(b, name) == says(c, name)) {
            return false;
        }
        int at = 0;
        while (Arrays.equals(first.get(at), second.get(at))) {
            at++;
        }
        int[] one = first.get(at);
        int[] two = second.get(at);
        clash = new int[] {one[0], one[1], one[2], two[0], two[1], two[2]};
        return true;
    }

    int clash(int i) {
        return i < 0 || i > 5 ? 0 : clash[i];
    }
}
