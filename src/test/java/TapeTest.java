/** Promises 1 and 2: a new object, type. */
public final class TapeTest {
    public static void main(String[] args) {
        newObject();
        charactersInOrder();
        wrongCounts();
        fullTape();
        outermostCharacters();
        objectsAreApart();
        Run.finish();
    }

    private static void newObject() {
        Run run = new Run("a new object");
        for (int view = 0; view < 3; view++) {
            run.due("size(" + view + ")", 0);
            run.due("next(" + view + ")", Run.BAD_STATE);
            run.due("drop(" + view + ")", Run.BAD_STATE);
        }
        run.due("size(3)", -1);
        run.foundIs("");
        run.due("edges(0)", 0);
        run.due("automaton(0)", 0);
        run.due("automaton(1)", 0);
        run.due("automaton(2)", 0);
        run.due("automaton(3)", -1);
        run.due("automaton(4)", 0);
        run.textIs("");
        run.due("undo()", -1);
        run.due("suffix(0, 0)", -1);
        run.due("locate(0)", 0);
        run.tapeIs("");
        run.due("view(0, 3)", 3);
    }

    private static void charactersInOrder() {
        Run run = new Run("the highest of the lowest characters first");
        // 'a', 'b', 'c', 'd' from the highest to the lowest.
        long four = 0x0061006200630064L;
        run.due("type(" + four + ", 1)", true);
        run.due("type(" + four + ", 2)", true);
        run.due("type(" + four + ", 3)", true);
        run.tapeIs("dcdbcd");
        run.due("type(" + four + ", 4)", true);
        run.tapeIs("abcd");
    }

    private static void wrongCounts() {
        Run run = new Run("another n");
        run.tape("xy");
        run.due("type(97, 0)", false);
        run.due("type(97, -1)", false);
        run.due("type(97, 5)", false);
        run.due("type(97, 2147483647)", false);
        run.due("type(97, -2147483648)", false);
        run.tapeIs("xy");
    }

    private static void fullTape() {
        Run run = new Run("at most 8");
        run.tape("abcdef");
        run.due("type(97, 3)", false);
        run.due("type(97, 4)", false);
        run.due("type(6750312, 2)", true);
        run.due("type(97, 1)", false);
        run.tapeIs("abcdefgh");
        run.tapeIs("");
    }

    private static void outermostCharacters() {
        Run run = new Run("characters 0 and 65535");
        run.due("type(-1, 4)", true);
        run.due("type(0, 2)", true);
        run.due("type(-65536, 1)", true);
        run.due("type(-9223372036854775808, 1)", true);
        run.tapeIs("\uffff\uffff\uffff\uffff\0\0\0\0");
        run.due("type(-9223372036854775808, 4)", true);
        run.tapeIs("\u8000\0\0\0");
    }

    private static void objectsAreApart() {
        Run one = new Run("one of two objects");
        Run other = new Run("the other of two objects");
        one.putAll(0, "a", "b");
        one.tape("c");
        other.due("size(0)", 0);
        other.tapeIs("");
        other.putAll(0, "z");
        one.due("put(0, 2)", -1);
        one.keysAre(0, "a", "b", "c");
    }
}
