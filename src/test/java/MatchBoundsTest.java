/**
 * The boundary cases that the document names for promise 15. Each run has the document's words as
 * its title.
 */
public final class MatchBoundsTest {
    public static void main(String[] args) {
        asLong();
        emptyText();
        eightCharacters();
        noPlace();
        atMostPlaces();
        farMorePlaces();
        differsFromNothing();
        neighboursOf63();
        sixtyThreeInAKey();
        emptyViews();
        fullMap();
        inAView();
        below0();
        noSuchView();
        Run.finish();
    }

    private static void asLong() {
        Run run = new Run("How many keys of a view are as long as the tape's text (USED)");
        run.putAll(0, "", "a", "ab", "abc", "abcd", "abcde", "abcdef", "abcdefg", "abcdefgh");
        for (int length = 0; length <= 8; length++) {
            String text = "abcdefgh".substring(0, length);
            run.due(text, "match(0, 0)", 1);
            run.tapeIs("");
            run.due(text, "match(0, 8)", 1);
        }
    }

    private static void emptyText() {
        Run run = new Run("How many keys of a view are as long as the tape's text (USED)");
        run.due("", "match(0, 0)", 0);
        run.putAll(0, "a", "?");
        run.due("", "match(0, 9)", 0);
        run.due("", "put(0, 1)", -1);
        run.due("", "match(0, 0)", 1);
        run.due("", "match(0, 2147483647)", 1);
    }

    private static void eightCharacters() {
        Run run = new Run("and differ from it in at most d places");
        run.putAll(0, "abcdefgh", "abcdefgx", "xbcdefgh", "xxxxxxxx", "abcdefg");
        int[] due = {1, 3, 3, 3, 3, 3, 3, 3, 4, 4};
        for (int d = 0; d <= 9; d++) {
            run.due("abcdefgh", "match(0, " + d + ")", due[d]);
        }
    }

    private static void noPlace() {
        Run run = new Run("and differ from it in at most d places");
        run.putAll(0, "\0", "\u0100", "\uffff", "\u7fff");
        run.due("\0", "match(0, 0)", 1);
        run.due("\uffff", "match(0, 0)", 1);
        run.due("\u00ff", "match(0, 0)", 0);
        run.due("\0", "match(0, 1)", 4);
    }

    private static void atMostPlaces() {
        Run run = new Run("and differ from it in at most d places");
        run.putAll(0, "xxx", "axx", "abx", "abc");
        int[] due = {1, 2, 3, 4, 4};
        for (int d = 0; d <= 4; d++) {
            run.due("abc", "match(0, " + d + ")", due[d]);
        }
    }

    private static void farMorePlaces() {
        Run run = new Run("and differ from it in at most d places");
        run.putAll(0, "xxx", "axx", "abx", "abc", "ab", "abcd");
        run.due("abc", "match(0, 121)", 4);
        run.due("abc", "match(0, 2147483646)", 4);
        run.due("abc", "match(0, 2147483647)", 4);
    }

    private static void differsFromNothing() {
        Run run = new Run("what is 63 in it differs from nothing");
        run.putAll(0, "aa", "ab", "?a", "\0\uffff", "a", "aaa");
        run.due("??", "match(0, 0)", 4);
        run.due("a?", "match(0, 0)", 2);
        run.due("?a", "match(0, 0)", 2);
        run.due("?", "match(0, 0)", 1);
        run.due("????????", "match(0, 8)", 0);
        run.due("z?", "match(0, 0)", 0);
        run.due("z?", "match(0, 1)", 4);
    }

    private static void neighboursOf63() {
        Run run = new Run("what is 63 in it differs from nothing");
        run.putAll(0, "a", "b");
        run.due(">", "match(0, 0)", 0);
        run.due("@", "match(0, 0)", 0);
        run.due("\u013f", "match(0, 0)", 0);
        run.due("\u3f00", "match(0, 0)", 0);
        run.due("?", "match(0, 0)", 2);
        run.due("*", "match(0, 0)", 0);
    }

    private static void sixtyThreeInAKey() {
        Run run = new Run("what is 63 in it differs from nothing");
        run.putAll(0, "?", "??");
        run.due("a", "match(0, 0)", 0);
        run.due("a", "match(0, 1)", 1);
        run.due("?", "match(0, 0)", 1);
        run.due("ab", "match(0, 1)", 0);
        run.due("a?", "match(0, 1)", 1);
    }

    private static void emptyViews() {
        Run run = new Run("How many keys of a view are as long as the tape's text (USED)");
        run.putAll(0, "a", "c");
        run.due("b", "view(0, 0)", 3);
        run.due("?", "match(3, 9)", 0);
        run.due("?", "match(1, 9)", 0);
        run.due("", "match(1, 0)", 0);
        run.tapeIs("");
    }

    private static void fullMap() {
        Run run = new Run("How many keys of a view are as long as the tape's text (USED)");
        run.fill(2);
        run.due("?", "match(2, 0)", 64);
        run.due("a", "match(2, 1)", 64);
        run.due("a", "match(2, 0)", 0);
        run.due("\u0427", "match(2, 0)", 1);
        run.due("??", "match(2, 2)", 0);
    }

    private static void inAView() {
        Run run = new Run("How many keys of a view are as long as the tape's text (USED)");
        run.putAll(0, "a", "b", "c", "d");
        run.due("b", "view(0, 2)", 3);
        run.due("d", "view(3, 1)", 4);
        run.due("view(4, 3)", 5);
        run.due("?", "match(3, 0)", 3);
        run.due("?", "match(4, 0)", 2);
        run.due("?", "match(5, 0)", 2);
        run.due("a", "match(5, 0)", 0);
        run.due("a", "match(5, 1)", 2);
    }

    private static void below0() {
        Run run = new Run("IllegalArgumentException: d is below 0.");
        run.putAll(0, "a");
        for (String d : new String[] {"-1", "-2", "-2147483648"}) {
            run.due("a", "match(0, " + d + ")", Run.BAD_ARGUMENT);
            run.tapeIs("");
            run.due("a", "match(1, " + d + ")", Run.BAD_ARGUMENT);
        }
        run.due("a", "match(0, 0)", 1);
    }

    private static void noSuchView() {
        Run run = new Run("Of several exceptions the first one told is thrown");
        run.tape("a");
        for (String d : new String[] {"0", "-1", "-2147483648"}) {
            for (String view : new String[] {"-1", "3", "11", "12"}) {
                run.due("match(" + view + ", " + d + ")", Run.OUT_OF_BOUNDS);
            }
            for (String view : Run.FAR) {
                run.due("match(" + view + ", " + d + ")", Run.OUT_OF_BOUNDS);
            }
        }
        run.tapeIs("a");
    }
}
