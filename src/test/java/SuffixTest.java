/** Promises 23 and 24: suffix, locate. */
public final class SuffixTest {
    public static void main(String[] args) {
        sorted();
        allAlike();
        followEdits();
        outermostCharacters();
        wrongSuffixes();
        locates();
        locatesTheEmptyText();
        tape();
        Run.finish();
    }

    private static void suffixes(Run run, int[] starts, int[] shared) {
        for (int k = 0; k < starts.length; k++) {
            run.due("suffix(" + k + ", 0)", starts[k]);
            run.due("suffix(" + k + ", 1)", shared[k]);
        }
        run.due("suffix(" + starts.length + ", 0)", -1);
        run.due("suffix(" + starts.length + ", 1)", -1);
    }

    private static void sorted() {
        Run run = new Run("banana, then mississippi");
        run.due("banana", "insert(0)", 6);
        suffixes(run, new int[] {5, 3, 1, 0, 4, 2}, new int[] {0, 1, 3, 0, 0, 2});
        run.due("delete(0, 6)", 0);
        run.due("mississi", "insert(0)", 8);
        run.due("ppi", "insert(8)", 11);
        suffixes(run, new int[] {10, 7, 4, 1, 0, 9, 8, 6, 3, 5, 2},
                new int[] {0, 1, 1, 4, 0, 0, 1, 0, 2, 1, 3});
    }

    private static void allAlike() {
        Run run = new Run("120 of one character");
        for (int i = 0; i < 15; i++) {
            run.due("aaaaaaaa", "insert(0)", 8 * i + 8);
        }
        for (int k = 0; k < 120; k++) {
            run.due("suffix(" + k + ", 0)", 119 - k);
            run.due("suffix(" + k + ", 1)", k);
        }
        run.due("suffix(120, 0)", -1);
        run.due("aaaaaaaa", "locate(0)", 113);
        run.due("aaaaaaaa", "locate(1)", 7);
    }

    private static void followEdits() {
        Run run = new Run("suffixes follow insert, delete and undo");
        run.due("ab", "insert(0)", 2);
        suffixes(run, new int[] {0, 1}, new int[] {0, 0});
        run.due("b", "insert(0)", 3);
        suffixes(run, new int[] {1, 2, 0}, new int[] {0, 0, 1});
        run.due("delete(0, 2)", 1);
        suffixes(run, new int[] {0}, new int[] {0});
        run.due("undo()", 3);
        suffixes(run, new int[] {1, 2, 0}, new int[] {0, 0, 1});
        run.due("undo()", 2);
        suffixes(run, new int[] {0, 1}, new int[] {0, 0});
        run.due("b", "locate(1)", 1);
        run.due("delete(0, 1)", 1);
        run.due("b", "locate(1)", 0);
        run.due("undo()", 2);
        run.due("b", "locate(1)", 1);
        run.due("a", "insert(0)", 3);
        suffixes(run, new int[] {0, 1, 2}, new int[] {0, 1, 0});
        run.due("delete(2, 3)", 2);
        suffixes(run, new int[] {1, 0}, new int[] {0, 1});
    }

    private static void outermostCharacters() {
        Run run = new Run("characters 0 and 65535");
        run.due("\0\uffff\0\0\uffff\uffff", "insert(0)", 6);
        suffixes(run, new int[] {2, 0, 3, 5, 1, 4}, new int[] {0, 1, 2, 0, 1, 1});
        run.due("\0", "locate(0)", 3);
        run.due("\uffff\0", "locate(1)", 4);
        run.due("\uffff\uffff", "locate(1)", 5);
    }

    private static void wrongSuffixes() {
        Run run = new Run("no such suffix, another what");
        run.due("suffix(0, 1)", -1);
        run.due("ab", "insert(0)", 2);
        for (String k : new String[] {"-1", "2", "120", "2147483647", "-2147483648"}) {
            run.due("suffix(" + k + ", 0)", -1);
            run.due("suffix(" + k + ", 1)", -1);
        }
        for (String what : new String[] {"-1", "2", "2147483647", "-2147483648"}) {
            run.due("suffix(0, " + what + ")", -1);
            run.due("suffix(1, " + what + ")", -1);
        }
    }

    private static void locates() {
        Run run = new Run("locate");
        run.due("banana", "insert(0)", 6);
        run.due("ana", "locate(0)", 2);
        run.due("ana", "locate(1)", 1);
        run.due("a", "locate(0)", 3);
        run.due("a", "locate(1)", 0);
        run.due("na", "locate(0)", 2);
        run.due("na", "locate(1)", 4);
        run.due("nan", "locate(1)", 5);
        run.due("banana", "locate(0)", 1);
        run.due("banana", "locate(1)", 3);
        run.due("bananas", "locate(0)", 0);
        run.due("bananas", "locate(1)", -1);
        run.due("x", "locate(0)", 0);
        run.due("x", "locate(1)", -1);
        run.due("aa", "locate(0)", 0);
        run.due("aa", "locate(1)", -1);
    }

    private static void locatesTheEmptyText() {
        Run run = new Run("the empty one stands at each character");
        run.due("locate(0)", 0);
        run.due("locate(1)", -1);
        run.due("ba", "insert(0)", 2);
        run.due("locate(0)", 2);
        run.due("locate(1)", 0);
    }

    private static void tape() {
        Run run = new Run("the tape with locate");
        run.due("ab", "insert(0)", 2);
        run.tape("b");
        for (String what : new String[] {"-1", "2", "2147483647", "-2147483648"}) {
            run.due("locate(" + what + ")", -1);
        }
        run.due("suffix(0, 0)", 0);
        run.tapeIs("b");
        run.tape("b");
        run.due("locate(0)", 1);
        run.tapeIs("");
        run.tape("x");
        run.due("locate(1)", -1);
        run.tapeIs("");
    }
}
