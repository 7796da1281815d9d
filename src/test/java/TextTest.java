/** Promises 19 to 22: insert, delete, undo, letter. */
public final class TextTest {
    public static void main(String[] args) {
        inserts();
        insertsAtTheLimit();
        deletes();
        undoes();
        editsOfNothing();
        atMostTwentyEdits();
        editsBehindUndo();
        editsThatThrow();
        letters();
        Run.finish();
    }

    private static void inserts() {
        Run run = new Run("insert");
        run.due("cd", "insert(0)", 2);
        run.due("ab", "insert(0)", 4);
        run.due("ef", "insert(4)", 6);
        run.due("x\0\uffff", "insert(3)", 9);
        run.textIs("abcx\0\uffffdef");
        run.tapeIs("");
        run.tape("q");
        run.due("insert(-1)", Run.OUT_OF_BOUNDS);
        run.due("insert(10)", Run.OUT_OF_BOUNDS);
        run.due("insert(2147483647)", Run.OUT_OF_BOUNDS);
        run.due("insert(-2147483648)", Run.OUT_OF_BOUNDS);
        run.tapeIs("q");
        run.textIs("abcx\0\uffffdef");
    }

    private static void insertsAtTheLimit() {
        Run run = new Run("at most 120");
        StringBuilder text = new StringBuilder();
        for (int i = 0; i < 14; i++) {
            run.due("abcdefgh", "insert(" + 8 * i + ")", 8 * i + 8);
            text.append("abcdefgh");
        }
        run.due("1234567", "insert(0)", 119);
        run.due("xy", "insert(0)", Run.BAD_STATE);
        run.tapeIs("");
        run.tape("xy");
        run.due("insert(120)", Run.OUT_OF_BOUNDS);
        run.due("put(0, 1)", -1);
        run.keysAre(0, "xy");
        run.due("z", "insert(119)", 120);
        text.insert(0, "1234567").append("z");
        run.textIs(text.toString());
        run.due("x", "insert(120)", Run.BAD_STATE);
        run.due("", "insert(120)", 120);
        run.due("undo()", 120);
        run.due("undo()", 119);
        run.due("undo()", 112);
        run.due("12345678", "insert(50)", 120);
        run.due("delete(0, 120)", 0);
        run.textIs("");
        run.due("undo()", 120);
        text.delete(119, 120).delete(0, 7).insert(50, "12345678");
        run.textIs(text.toString());
    }

    private static void deletes() {
        Run run = new Run("delete");
        run.due("abcdefgh", "insert(0)", 8);
        run.due("delete(2, 4)", 6);
        run.textIs("abefgh");
        run.due("delete(0, 1)", 5);
        run.due("delete(4, 5)", 4);
        run.textIs("befg");
        run.tape("q");
        for (String places : new String[] {"-1, 2", "3, 2", "0, 5", "5, 5", "0, -1", "-1, -1",
            "-2147483648, 2147483647", "2147483647, -2147483648", "1, 2147483647"}) {
            run.due("delete(" + places + ")", Run.OUT_OF_BOUNDS);
        }
        run.textIs("befg");
        run.due("delete(0, 4)", 0);
        run.textIs("");
        run.tapeIs("q");
    }

    private static void undoes() {
        Run run = new Run("undo");
        run.due("undo()", -1);
        run.due("abcd", "insert(0)", 4);
        run.due("xy", "insert(2)", 6);
        run.due("delete(1, 5)", 2);
        run.due("delete(0, 0)", 2);
        run.textIs("ad");
        run.tape("q");
        run.due("undo()", 2);
        run.due("undo()", 6);
        run.textIs("abxycd");
        run.due("undo()", 4);
        run.textIs("abcd");
        run.due("undo()", 0);
        run.textIs("");
        run.due("undo()", -1);
        run.due("undo()", -1);
        run.tapeIs("q");
    }

    private static void editsOfNothing() {
        Run run = new Run("edits of nothing can be taken back");
        run.due("ab", "insert(0)", 2);
        run.due("insert(1)", 2);
        run.due("delete(1, 1)", 2);
        run.due("delete(2, 2)", 2);
        run.due("undo()", 2);
        run.due("undo()", 2);
        run.due("undo()", 2);
        run.due("undo()", 0);
        run.due("undo()", -1);
    }

    private static void atMostTwentyEdits() {
        Run run = new Run("at most the latest 20");
        for (int i = 0; i < 25; i++) {
            run.due(String.valueOf((char) ('a' + i)), "insert(0)", i + 1);
        }
        for (int i = 24; i >= 5; i--) {
            run.due("undo()", i);
        }
        run.textIs("edcba");
        run.due("undo()", -1);
        run.textIs("edcba");
        run.due("x", "insert(5)", 6);
        run.due("undo()", 5);
        run.due("undo()", -1);
    }

    private static void editsBehindUndo() {
        Run run = new Run("edits behind an undo");
        run.due("ab", "insert(0)", 2);
        run.due("cd", "insert(2)", 4);
        run.due("undo()", 2);
        run.due("xyz", "insert(1)", 5);
        run.textIs("axyzb");
        run.due("undo()", 2);
        run.textIs("ab");
        run.due("undo()", 0);
        run.due("undo()", -1);
    }

    private static void editsThatThrow() {
        Run run = new Run("edits that throw are none");
        run.due("ab", "insert(0)", 2);
        run.due("ab", "insert(3)", Run.OUT_OF_BOUNDS);
        run.due("delete(0, 3)", Run.OUT_OF_BOUNDS);
        run.due("insert(0)", 4);
        for (int length = 4; length < 116; length += 8) {
            run.due("12345678", "insert(0)", length + 8);
        }
        run.due("12345678", "insert(0)", Run.BAD_STATE);
        run.due("undo()", 108);
        run.due("undo()", 100);
        for (int length = 92; length >= 4; length -= 8) {
            run.due("undo()", length);
        }
        run.due("undo()", 2);
        run.due("undo()", 0);
        run.due("undo()", -1);
    }

    private static void letters() {
        Run run = new Run("letter");
        run.due("letter(-2)", 0);
        run.due("\uffff\uffff\uffff\uffff\uffff\uffff\uffff\uffff", "insert(0)", 8);
        run.due("a", "insert(8)", 9);
        run.textIs("\uffff\uffff\uffff\uffff\uffff\uffff\uffff\uffffa");
        for (String i : new String[] {"-3", "9", "119", "120", "2147483647", "-2147483648"}) {
            run.due("letter(" + i + ")", -1);
        }
        run.tape("q");
        run.due("letter(0)", 65535);
        run.tapeIs("q");
    }
}
