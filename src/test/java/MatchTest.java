/** Promise 15: match. */
public final class MatchTest {
    public static void main(String[] args) {
        places();
        wildcards();
        views();
        emptyText();
        wrongInputs();
        Run.finish();
    }

    private static void places() {
        Run run = new Run("differs in at most d places");
        run.putAll(0, "abcd", "abce", "abff", "xbcd", "xyzw", "abc", "abcde");
        run.due("abcd", "match(0, 0)", 1);
        run.due("abcd", "match(0, 1)", 3);
        run.due("abcd", "match(0, 2)", 4);
        run.due("abcd", "match(0, 3)", 4);
        run.due("abcd", "match(0, 4)", 5);
        run.due("abcd", "match(0, 2147483647)", 5);
        run.due("abc", "match(0, 0)", 1);
        run.due("ab", "match(0, 9)", 0);
        run.due("abcdefgh", "match(0, 9)", 0);
    }

    private static void wildcards() {
        Run run = new Run("what is 63 in the text differs from nothing");
        run.putAll(0, "aa", "ab", "cb", "?b", "a?", "??");
        run.due("?b", "match(0, 0)", 3);
        run.due("??", "match(0, 0)", 6);
        run.due("a?", "match(0, 0)", 3);
        run.due("a?", "match(0, 1)", 6);
        run.due("ab", "match(0, 0)", 1);
        run.due("ab", "match(0, 1)", 5);
        run.due("?", "match(0, 2)", 0);
    }

    private static void views() {
        Run run = new Run("of a view's keys");
        run.putAll(0, "aa", "ab", "ba", "bb");
        run.due("b", "view(0, 0)", 3);
        run.due("view(3, 3)", 4);
        run.due("?a", "match(0, 0)", 2);
        run.due("?a", "match(3, 0)", 1);
        run.due("?a", "match(4, 1)", 2);
        run.due("?a", "match(1, 1)", 0);
    }

    private static void emptyText() {
        Run run = new Run("the empty text");
        run.putAll(0, "a");
        run.due("", "match(0, 5)", 0);
        run.putAll(0, "");
        run.due("", "match(0, 0)", 1);
    }

    private static void wrongInputs() {
        Run run = new Run("no such view, d below 0");
        run.tape("ab");
        run.due("match(3, 0)", Run.OUT_OF_BOUNDS);
        run.due("match(-1, -1)", Run.OUT_OF_BOUNDS);
        run.tapeIs("ab");
        run.tape("ab");
        run.due("match(0, -1)", Run.BAD_ARGUMENT);
        run.tapeIs("");
        run.due("match(0, -2147483648)", Run.BAD_ARGUMENT);
        run.tape("ab");
        run.due("match(0, 0)", 0);
        run.tapeIs("");
    }
}
