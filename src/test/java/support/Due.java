/** Compares answers with those that are due, and tells at the end whether all were right. */
final class Due {
    private static int asked = 0;
    private static int wrong = 0;
    private static String sentence = "";

    private Due() {
    }

    /** What is asked from now on holds these words of the document. */
    static void sentence(String words) {
        sentence = words;
    }

    static void due(String call, long got, long want) {
        asked++;
        if (got != want) {
            wrong++;
            tell(call + " answered " + got + ", due is " + want);
        }
    }

    private static void tell(String fault) {
        if (wrong <= 50) {
            System.out.println(sentence.isEmpty() ? fault : fault + " (\"" + sentence + "\")");
        }
    }

    static void due(String call, boolean got, boolean want) {
        due(call, got ? 1 : 0, want ? 1 : 0);
    }

    /** The words of a buffer, all of them and no more. */
    static void words(String call, Watched x, int b, int... want) {
        due(call + ": how many words", x.word(b, -1), want.length);
        for (int i = 0; i < want.length; i++) {
            due(call + ": word " + i, x.word(b, i), want[i]);
        }
        due(call + ": word behind the last", x.word(b, want.length), -2);
    }

    /** A block, all three numbers of it. */
    static void block(Watched x, int i, int kind, int first, int second) {
        due("block(" + i + ", 0)", x.block(i, 0), kind);
        due("block(" + i + ", 1)", x.block(i, 1), first);
        due("block(" + i + ", 2)", x.block(i, 2), second);
    }

    /** Fills a buffer with words by poke(). */
    static void fill(Watched x, int b, int... words) {
        due("trim(" + b + ", 0)", x.trim(b, 0), true);
        for (int i = 0; i < words.length; i++) {
            due("poke(" + b + ", " + i + ")", x.poke(b, i, words[i]), true);
        }
    }

    static void end() {
        System.out.println(asked + " answers, " + wrong + " not as due");
        if (wrong != 0 || asked == 0) {
            System.exit(1);
        }
    }
}
