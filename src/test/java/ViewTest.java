/** Promise 3: view, and what the terms say of views. */
public final class ViewTest {
    public static void main(String[] args) {
        sorts();
        viewsOfViews();
        live();
        turnedRound();
        lessIsByOrder();
        emptyTexts();
        outermostTexts();
        atMostTwelve();
        wrongInputs();
        Run.finish();
    }

    private static void sorts() {
        Run run = new Run("the four sorts");
        run.putAll(0, "b", "ba", "bab", "bb", "a", "c", "");
        run.due("ba", "view(0, 0)", 3);
        run.due("ba", "view(0, 1)", 4);
        run.due("ba", "view(0, 2)", 5);
        run.due("ba", "view(0, 3)", 6);
        run.tapeIs("");
        run.keysAre(3, "ba", "bab");
        run.keysAre(4, "", "a", "b");
        run.keysAre(5, "ba", "bab", "bb", "c");
        run.keysAre(6, "c", "bb", "bab", "ba", "b", "a", "");
        run.keysAre(0, "", "a", "b", "ba", "bab", "bb", "c");
    }

    private static void viewsOfViews() {
        Run run = new Run("a part of a part");
        run.putAll(1, "a", "b", "ba", "bb", "bc", "bcd", "c", "d");
        run.due("b", "view(1, 2)", 3);
        run.due("c", "view(3, 1)", 4);
        run.due("b", "view(4, 0)", 5);
        run.due("bc", "view(5, 0)", 6);
        run.due("a", "view(4, 0)", 7);
        run.keysAre(4, "b", "ba", "bb", "bc", "bcd");
        run.keysAre(6, "bc", "bcd");
        run.keysAre(7);
        run.due("bcd", "view(6, 1)", 8);
        run.keysAre(8, "bc");
        run.due("bx", "put(8, 1)", Run.BAD_ARGUMENT);
        run.due("bce", "put(8, 1)", Run.BAD_ARGUMENT);
        run.due("bca", "put(8, 9)", -1);
        run.keysAre(8, "bc", "bca");
        run.due("a", "put(7, 1)", Run.BAD_ARGUMENT);
    }

    private static void live() {
        Run run = new Run("what is put or removed is so in all views");
        run.due("b", "view(2, 0)", 3);
        run.due("view(3, 3)", 4);
        run.due("b", "put(2, 1)", -1);
        run.due("bx", "put(4, 2)", -1);
        run.due("a", "put(2, 3)", -1);
        run.keysAre(3, "b", "bx");
        run.keysAre(4, "bx", "b");
        run.due("b", "remove(4)", 1);
        run.keysAre(2, "a", "bx");
        run.keysAre(3, "bx");
        run.due("size(0)", 0);
        run.due("size(1)", 0);
        run.due("bx", "put(3, 8)", 2);
        run.due("bx", "get(2)", 8);
        run.due("a", "remove(2)", 3);
        run.keysAre(3, "bx");
        run.due("b", "put(2, 4)", -1);
        run.due("c", "put(2, 5)", -1);
        run.keysAre(3, "b", "bx");
        run.keysAre(4, "bx", "b");
    }

    private static void turnedRound() {
        Run run = new Run("turned an odd and an even number of times");
        run.putAll(0, "a", "b", "ba", "c");
        run.due("view(0, 3)", 3);
        run.due("view(3, 3)", 4);
        run.due("b", "view(3, 0)", 5);
        run.due("view(5, 3)", 6);
        run.keysAre(3, "c", "ba", "b", "a");
        run.keysAre(4, "a", "b", "ba", "c");
        run.keysAre(5, "ba", "b");
        run.keysAre(6, "b", "ba");
    }

    private static void lessIsByOrder() {
        Run run = new Run("less by ORDER, also of a view that is turned round");
        run.putAll(0, "a", "b", "c");
        run.due("view(0, 3)", 3);
        run.due("b", "view(3, 1)", 4);
        run.due("b", "view(3, 2)", 5);
        run.keysAre(4, "a");
        run.keysAre(5, "c", "b");
    }

    private static void emptyTexts() {
        Run run = new Run("views by the empty text");
        run.putAll(0, "", "a");
        run.due("view(0, 0)", 3);
        run.due("view(0, 1)", 4);
        run.due("view(0, 2)", 5);
        run.keysAre(3, "", "a");
        run.keysAre(4);
        run.keysAre(5, "", "a");
        run.due("put(4, 1)", Run.BAD_ARGUMENT);
    }

    private static void outermostTexts() {
        Run run = new Run("characters 0 and 65535, and eight characters");
        run.putAll(0, "\uffff\uffff", "\uffff", "a", "a\0", "\ufffe", "abcdefgh", "abcdefgi");
        run.keysAre(0, "a", "a\0", "abcdefgh", "abcdefgi", "\ufffe", "\uffff", "\uffff\uffff");
        run.due("\uffff", "view(0, 0)", 3);
        run.due("a\0", "view(0, 1)", 4);
        run.due("a\0", "view(0, 2)", 5);
        run.due("abcdefgh", "view(0, 0)", 6);
        run.keysAre(3, "\uffff", "\uffff\uffff");
        run.keysAre(4, "a");
        run.keysAre(5, "a\0", "abcdefgh", "abcdefgi", "\ufffe", "\uffff", "\uffff\uffff");
        run.keysAre(6, "abcdefgh");
    }

    private static void atMostTwelve() {
        Run run = new Run("at most twelve");
        for (int view = 3; view < 12; view++) {
            run.due("view(" + (view - 1) + ", 3)", view);
        }
        run.due("abc", "view(0, 0)", -1);
        run.tapeIs("");
        run.due("abc", "view(11, 3)", -1);
        run.tapeIs("");
        run.due("view(12, 0)", Run.OUT_OF_BOUNDS);
        run.due("view(0, 4)", Run.OUT_OF_BOUNDS);
        run.due("size(12)", -1);
        run.putAll(11, "a", "b");
        run.keysAre(11, "b", "a");
    }

    private static void wrongInputs() {
        Run run = new Run("no such view, no such sort");
        run.tape("ab");
        for (String call : new String[] {"view(3, 0)", "view(-1, 0)", "view(0, -1)", "view(0, 4)",
            "view(2147483647, 0)", "view(0, -2147483648)", "view(-1, -1)"}) {
            run.due(call, Run.OUT_OF_BOUNDS);
        }
        run.tapeIs("ab");
        run.due("size(3)", -1);
        run.due("view(0, 0)", 3);
    }
}
