/** Promise 16: edges. */
public final class EdgesTest {
    public static void main(String[] args) {
        innerTexts();
        halvesOfCharacters();
        emptyKey();
        fans();
        depths();
        depthsByBits();
        tape();
        wrongInputs();
        Run.finish();
    }

    private static void inner(Run run, int... want) {
        for (int what = 0; what < 5; what++) {
            run.due("edges(" + what + ")", want[what]);
        }
    }

    private static void innerTexts() {
        Run run = new Run("INNER texts");
        inner(run, 0, 0, 0, 0, 0);
        run.putAll(1, "abc");
        inner(run, 0, 0, 0, 0, 0);
        run.putAll(1, "abd");
        inner(run, 1, 1, 0, 0, 0);
        run.putAll(1, "ab");
        inner(run, 2, 2, 0, 0, 0);
        run.putAll(1, "xyz", "xyw");
        inner(run, 4, 4, 0, 0, 0);
        run.putAll(0, "p", "q", "pq");
        run.putAll(2, "p", "q", "pq");
        inner(run, 4, 4, 0, 0, 0);
        run.due("ab", "remove(1)", 0);
        inner(run, 3, 3, 0, 0, 0);
        run.due("xyz", "remove(1)", 0);
        inner(run, 2, 2, 0, 0, 0);
        run.due("abd", "remove(1)", 0);
        inner(run, 1, 1, 0, 0, 0);
    }

    private static void halvesOfCharacters() {
        Run run = new Run("each character as two bytes, the higher half first");
        run.putAll(1, "\u0101", "\u0102", "\u0201", "\u0202");
        inner(run, 3, 3, 0, 0, 0);
        run.putAll(1, "\u0301", "\u0401");
        inner(run, 3, 3, 0, 0, 0);
        run.putAll(1, "\u0501");
        inner(run, 3, 2, 1, 0, 0);
        run = new Run("two of the same text, apart by what goes on between");
        run.putAll(1, "\u0101", "\u0101a", "\u0101b", "\u0102", "\u0103");
        inner(run, 3, 3, 0, 0, 0);
    }

    private static void emptyKey() {
        Run run = new Run("the empty key");
        run.putAll(1, "");
        inner(run, 0, 0, 0, 0, 0);
        run.putAll(1, "a");
        inner(run, 1, 1, 0, 0, 0);
        run.putAll(1, "\0", "\0\0");
        inner(run, 3, 3, 0, 0, 0);
        run.due("", "remove(1)", 0);
        inner(run, 2, 2, 0, 0, 0);
    }

    /** Keys of one character whose lower halves differ: one INNER text, whose fan grows. */
    private static void fans() {
        Run run = new Run("fans of 4, 5, 16, 17, 48, 49");
        for (int fan = 1; fan <= 64; fan++) {
            run.due(String.valueOf((char) (fan * 3)), "put(1, 0)", -1);
            if (fan >= 2) {
                int what = fan <= 4 ? 1 : fan <= 16 ? 2 : fan <= 48 ? 3 : 4;
                inner(run, 1, what == 1 ? 1 : 0, what == 2 ? 1 : 0, what == 3 ? 1 : 0,
                        what == 4 ? 1 : 0);
            }
        }
        run = new Run("a fan of 4 below a key, and of 5");
        run.putAll(1, "a", "a\u0100", "a\u0200", "a\u0300", "a\u0400");
        inner(run, 1, 1, 0, 0, 0);
        run.putAll(1, "a\u0500");
        inner(run, 1, 0, 1, 0, 0);
    }

    private static void depths() {
        Run run = new Run("DEPTH");
        run.due("", "edges(5)", -1);
        run.due("a", "edges(5)", -1);
        run.putAll(0, "a");
        run.due("a", "edges(5)", 0);
        run.putAll(0, "b", "c");
        // 97 is ..01, 98 is ..10, 99 is ..11
        run.due("a", "edges(5)", 1);
        run.due("b", "edges(5)", 2);
        run.due("c", "edges(5)", 2);
        run.due("d", "edges(5)", -1);
        run.putAll(0, "aa", "aab", "");
        run.due("a", "edges(5)", 3);
        run.due("aa", "edges(5)", 4);
        run.due("aab", "edges(5)", 4);
        run.due("", "edges(5)", 1);
        run.putAll(1, "z");
        run.due("z", "edges(5)", -1);
        run.due("aa", "remove(0)", 0);
        run.due("aab", "edges(5)", 3);
    }

    private static void depthsByBits() {
        Run run = new Run("DEPTH by all bits of a character, and the bit ahead of them");
        run.putAll(0, "\0");
        for (int bit = 0; bit < 16; bit++) {
            run.due("\0", "edges(5)", bit);
            run.due(String.valueOf((char) (1 << bit)), "put(0, 1)", -1);
        }
        run.due("\0", "edges(5)", 16);
        run.due("\u8000", "edges(5)", 1);
        run.due("\1", "edges(5)", 16);
        run.putAll(0, "");
        run.due("\0", "edges(5)", 17);
        run.putAll(0, "\0\0");
        run.due("\0", "edges(5)", 18);
        run.putAll(0, "\0\0\0\0\0\0\0\0", "\0\0\0\0\0\0\0\uffff");
        run.due("\0\0\0\0\0\0\0\0", "edges(5)", 20);
        run.due("\uffff", "put(0, 0)", -1);
        run.due("\0", "edges(5)", 18);
    }

    private static void tape() {
        Run run = new Run("only DEPTH uses the tape");
        run.putAll(0, "a");
        run.tape("a");
        inner(run, 0, 0, 0, 0, 0);
        run.due("edges(6)", Run.OUT_OF_BOUNDS);
        run.due("edges(5)", 0);
        run.tapeIs("");
        run.tape("b");
        run.due("edges(5)", -1);
        run.tapeIs("");
    }

    private static void wrongInputs() {
        Run run = new Run("no such what");
        for (String what : new String[] {"-1", "6", "2147483647", "-2147483648"}) {
            run.due("edges(" + what + ")", Run.OUT_OF_BOUNDS);
        }
    }
}
