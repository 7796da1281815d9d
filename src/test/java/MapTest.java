/** Promises 4 to 7: put, get, remove, size. */
public final class MapTest {
    public static void main(String[] args) {
        putGetRemove();
        values();
        orderOfKeys();
        range();
        fullMap();
        tapeIsUsed();
        noSuchView();
        Run.finish();
    }

    private static void putGetRemove() {
        Run run = new Run("put, get, remove");
        run.due("ab", "put(0, 7)", -1);
        run.due("ab", "get(0)", 7);
        run.due("ab", "get(1)", -1);
        run.due("a", "get(0)", -1);
        run.due("abc", "get(0)", -1);
        run.due("ab", "put(0, 9)", 7);
        run.due("ab", "get(0)", 9);
        run.due("size(0)", 1);
        run.due("abc", "remove(0)", -1);
        run.due("ab", "remove(1)", -1);
        run.due("ab", "remove(0)", 9);
        run.due("ab", "remove(0)", -1);
        run.due("ab", "get(0)", -1);
        run.due("size(0)", 0);
        run.due("put(0, 3)", -1);
        run.due("get(0)", 3);
        run.due("remove(0)", 3);
    }

    private static void values() {
        Run run = new Run("values");
        run.due("a", "put(0, 0)", -1);
        run.due("a", "put(0, 2147483647)", 0);
        run.due("a", "get(0)", 2147483647);
        run.due("a", "put(0, -1)", Run.BAD_ARGUMENT);
        run.due("a", "put(0, -2147483648)", Run.BAD_ARGUMENT);
        run.due("b", "put(0, -1)", Run.BAD_ARGUMENT);
        run.due("a", "get(0)", 2147483647);
        run.due("size(0)", 1);
    }

    private static void orderOfKeys() {
        Run run = new Run("keys come and go in ORDER");
        run.putAll(0, "m", "\0", "", "\uffff", "mm", "l\uffff", "m\0", "\0\0");
        run.keysAre(0, "", "\0", "\0\0", "l\uffff", "m", "m\0", "mm", "\uffff");
        run.due("m", "remove(0)", 0);
        run.due("", "remove(0)", 2);
        run.due("\uffff", "remove(0)", 3);
        run.keysAre(0, "\0", "\0\0", "l\uffff", "m\0", "mm");
        run.due("mm", "get(0)", 4);
        run.due("m\0", "get(0)", 6);
    }

    private static void range() {
        Run run = new Run("keys outside the view's RANGE");
        run.putAll(0, "a", "b", "bb");
        run.due("b", "view(0, 0)", 3);
        run.due("a", "put(3, 5)", Run.BAD_ARGUMENT);
        run.due("c", "put(3, 5)", Run.BAD_ARGUMENT);
        run.due("a", "get(3)", -1);
        run.due("a", "remove(3)", -1);
        run.keysAre(0, "a", "b", "bb");
        run.due("bb", "get(3)", 2);
        run.due("bb", "remove(3)", 2);
        run.due("bc", "put(3, 5)", -1);
        run.keysAre(0, "a", "b", "bc");
        run.due("size(3)", 2);
    }

    private static void fullMap() {
        Run run = new Run("at most 64 keys");
        run.fill(0);
        run.due("size(0)", 64);
        run.due("a", "put(0, 1)", Run.BAD_STATE);
        run.due("a", "put(0, -1)", Run.BAD_ARGUMENT);
        run.due("a", "get(0)", -1);
        run.due("size(0)", 64);
        run.due("\u03e8", "view(0, 1)", 3);
        run.due("\u03e8", "put(3, 1)", Run.BAD_ARGUMENT);
        run.due("a", "put(3, 1)", Run.BAD_STATE);
        run.due("\u03e8", "put(0, 77)", 0);
        run.due("\u0427", "put(0, 78)", 63);
        run.due("a", "put(1, 1)", -1);
        run.due("\u03e9", "remove(0)", 1);
        run.due("a", "put(0, 1)", -1);
        run.due("b", "put(0, 1)", Run.BAD_STATE);
        run.due("a", "get(3)", 1);
    }

    private static void tapeIsUsed() {
        Run run = new Run("the tape is used");
        run.tape("abc");
        run.due("put(0, -5)", Run.BAD_ARGUMENT);
        run.tapeIs("");
        run.due("x", "view(0, 0)", 3);
        run.tape("abc");
        run.due("put(3, 5)", Run.BAD_ARGUMENT);
        run.tapeIs("");
        run.tape("abc");
        run.due("get(0)", -1);
        run.tapeIs("");
        run.tape("abc");
        run.due("remove(3)", -1);
        run.tapeIs("");
        run.fill(1);
        run.tape("abc");
        run.due("put(1, 5)", Run.BAD_STATE);
        run.tapeIs("");
        run.tape("abc");
        run.due("size(0)", 0);
        run.tapeIs("abc");
    }

    private static void noSuchView() {
        Run run = new Run("no such view");
        run.tape("abc");
        for (String view : new String[] {"3", "-1", "12", "2147483647", "-2147483648"}) {
            run.due("put(" + view + ", 1)", Run.OUT_OF_BOUNDS);
            run.due("put(" + view + ", -1)", Run.OUT_OF_BOUNDS);
            run.due("get(" + view + ")", Run.OUT_OF_BOUNDS);
            run.due("remove(" + view + ")", Run.OUT_OF_BOUNDS);
            run.due("size(" + view + ")", -1);
        }
        run.tapeIs("abc");
    }
}
