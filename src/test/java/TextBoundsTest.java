/**
 * The boundary cases that the document names for THE TEXT and promises 19 to 22. Each run has the
 * document's words as its title.
 */
public final class TextBoundsTest {
    private static final String EIGHT = "abcdefgh";

    public static void main(String[] args) {
        insertAtTheEnds();
        insertNothing();
        insertEight();
        insertIsUsed();
        noSuchPlace();
        noSuchPlaceInAFullText();
        to120();
        moreThan120();
        moreThan120ByEight();
        nothingIntoAFullText();
        roomAgain();
        deleteAtTheEnds();
        deleteNothing();
        deleteAll();
        deleteAllOfAFullText();
        deleteOutOfBounds();
        deleteOutOfBoundsOfNothing();
        deleteOutOfBoundsOfAFullText();
        deleteLeavesTheTape();
        undoOfNone();
        undoOfNothing();
        undoOfRefused();
        latestFirst();
        twentyEdits();
        twentyOneEdits();
        twentyDeletes();
        twentyEditsOfNothing();
        twentyEditsToNothing();
        fiveRoundsOfTwenty();
        twentyAgain();
        undoneAreNotAmongTheTwenty();
        undoOfAFullText();
        undoToAFullText();
        undoLeavesTheTape();
        letters();
        lettersOfNothing();
        lettersOfAFullText();
        noSuchLetter();
        sumOfNothing();
        sumAtTheEndOfInt();
        sumThatIsNone();
        sumOfAFullText();
        sumFollowsEdits();
        Run.finish();
    }

    private static void insertAtTheEnds() {
        Run run = new Run("ahead of character i (0 .. its length)");
        run.due("m", "insert(0)", 1);
        run.due("a", "insert(0)", 2);
        run.due("z", "insert(2)", 3);
        run.due("y", "insert(2)", 4);
        run.textIs("amyz");
    }

    private static void insertNothing() {
        Run run = new Run("The tape's text (USED) goes into the TEXT ahead of character i");
        run.due("insert(0)", 0);
        run.textIs("");
        run.due("ab", "insert(0)", 2);
        for (int i = 0; i <= 2; i++) {
            run.due("insert(" + i + ")", 2);
        }
        run.textIs("ab");
    }

    private static void insertEight() {
        Run run = new Run("The tape's text (USED) goes into the TEXT ahead of character i");
        run.due(EIGHT, "insert(0)", 8);
        run.due("\0\uffff\0\uffff\0\uffff\0\uffff", "insert(4)", 16);
        run.textIs("abcd\0\uffff\0\uffff\0\uffff\0\uffffefgh");
    }

    private static void insertIsUsed() {
        Run run = new Run("The tape's text (USED) goes into the TEXT ahead of character i");
        run.due(EIGHT, "insert(0)", 8);
        run.due("insert(0)", 8);
        run.tapeIs("");
    }

    private static void noSuchPlace() {
        Run run = new Run("IndexOutOfBoundsException: no such place");
        run.tape("x");
        run.due("insert(1)", Run.OUT_OF_BOUNDS);
        run.due("insert(-1)", Run.OUT_OF_BOUNDS);
        run.due("insert(0)", 1);
        run.tape(EIGHT);
        run.due("insert(2)", Run.OUT_OF_BOUNDS);
        run.due("insert(-1)", Run.OUT_OF_BOUNDS);
        run.due("insert(120)", Run.OUT_OF_BOUNDS);
        for (String i : Run.FAR) {
            run.due("insert(" + i + ")", Run.OUT_OF_BOUNDS);
        }
        run.textIs("x");
        run.tapeIs(EIGHT);
        run.due("undo()", 0);
        run.due("undo()", -1);
    }

    private static void noSuchPlaceInAFullText() {
        Run run = new Run("Of several exceptions the first one told is thrown");
        run.fillText(EIGHT);
        run.tape("xy");
        run.due("insert(-1)", Run.OUT_OF_BOUNDS);
        run.due("insert(121)", Run.OUT_OF_BOUNDS);
        run.due("insert(2147483647)", Run.OUT_OF_BOUNDS);
        run.due("insert(-2147483648)", Run.OUT_OF_BOUNDS);
        run.due("put(0, 1)", -1);
        run.keysAre(0, "xy");
    }

    private static void to120() {
        Run run = new Run("THE TEXT has at most 120 characters, none at first.");
        run.fillText(EIGHT);
        run.textIs(EIGHT.repeat(15));
    }

    /** A text of 120 - free characters. */
    private static Run nearlyFull(String title, int free) {
        Run run = new Run(title);
        run.fillText(EIGHT);
        run.due("delete(0, " + free + ")", 120 - free);
        return run;
    }

    private static void moreThan120() {
        for (int free = 0; free < 8; free++) {
            Run run = nearlyFull("IllegalStateException: it would have more than 120.", free);
            int length = 120 - free;
            String more = EIGHT.substring(0, free + 1);
            run.due(more, "insert(0)", Run.BAD_STATE);
            run.due(more, "insert(" + length + ")", Run.BAD_STATE);
            run.due("letter(-1)", length);
            run.due("letter(0)", EIGHT.charAt(free % 8));
            run.due("letter(" + (length - 1) + ")", 'h');
            run.tapeIs("");
            run.due(EIGHT.substring(0, free), "insert(" + length + ")", 120);
            run.due("x", "insert(120)", Run.BAD_STATE);
            run.textIs((EIGHT.repeat(15) + EIGHT).substring(free, 120) + EIGHT.substring(0, free));
        }
    }

    private static void moreThan120ByEight() {
        Run run = nearlyFull("IllegalStateException: it would have more than 120.", 0);
        run.due(EIGHT, "insert(60)", Run.BAD_STATE);
        run.due(EIGHT, "insert(0)", Run.BAD_STATE);
        run.due(EIGHT, "insert(120)", Run.BAD_STATE);
        run.textIs(EIGHT.repeat(15));
    }

    private static void nothingIntoAFullText() {
        Run run = nearlyFull("IllegalStateException: it would have more than 120.", 0);
        run.due("insert(0)", 120);
        run.due("insert(120)", 120);
        run.due("undo()", 120);
        run.due("undo()", 120);
        // The deletion of nothing with which the text was made.
        run.due("undo()", 120);
        run.due("undo()", 112);
    }

    private static void roomAgain() {
        Run run = nearlyFull("THE TEXT has at most 120 characters, none at first.", 1);
        run.due("xy", "insert(0)", Run.BAD_STATE);
        run.due("x", "insert(0)", 120);
        run.due("y", "insert(0)", Run.BAD_STATE);
        run.due("undo()", 119);
        run.due("y", "insert(119)", 120);
        run.due("z", "insert(0)", Run.BAD_STATE);
        run.due("letter(119)", 'y');
        run.due("letter(120)", -1);
    }

    private static void deleteAtTheEnds() {
        Run run = new Run("The characters from i on, ahead of k, go: the length then.");
        run.due(EIGHT, "insert(0)", 8);
        run.due("delete(0, 1)", 7);
        run.due("delete(6, 7)", 6);
        run.due("delete(2, 4)", 4);
        run.textIs("bcfg");
    }

    private static void deleteNothing() {
        Run run = new Run("The characters from i on, ahead of k, go: the length then.");
        run.due("delete(0, 0)", 0);
        run.due("abc", "insert(0)", 3);
        for (int i = 0; i <= 3; i++) {
            run.due("delete(" + i + ", " + i + ")", 3);
        }
        run.textIs("abc");
    }

    private static void deleteAll() {
        Run run = new Run("The characters from i on, ahead of k, go: the length then.");
        run.due("a", "insert(0)", 1);
        run.due("delete(0, 1)", 0);
        run.textIs("");
        run.due("xy", "insert(0)", 2);
        run.textIs("xy");
    }

    private static void deleteAllOfAFullText() {
        Run run = new Run("The characters from i on, ahead of k, go: the length then.");
        run.fillText(EIGHT);
        run.due("delete(1, 119)", 2);
        run.textIs("ah");
        run.due("undo()", 120);
        run.due("delete(0, 120)", 0);
        run.textIs("");
    }

    private static void deleteOutOfBounds() {
        Run run = new Run("IndexOutOfBoundsException: not 0 <= i <= k <= its length.");
        run.due("abc", "insert(0)", 3);
        for (String places : new String[] {"-1, 0", "-1, -1", "-1, 3", "1, 0", "3, 2", "0, 4",
            "3, 4", "4, 4", "4, 3", "0, -1"}) {
            run.due("delete(" + places + ")", Run.OUT_OF_BOUNDS);
        }
        for (String far : Run.FAR) {
            run.due("delete(" + far + ", 3)", Run.OUT_OF_BOUNDS);
            run.due("delete(0, " + far + ")", Run.OUT_OF_BOUNDS);
            run.due("delete(" + far + ", " + far + ")", Run.OUT_OF_BOUNDS);
        }
        run.due("delete(-2147483648, 2147483647)", Run.OUT_OF_BOUNDS);
        run.due("delete(2147483647, -2147483648)", Run.OUT_OF_BOUNDS);
        run.textIs("abc");
        run.due("undo()", 0);
        run.due("undo()", -1);
    }

    private static void deleteOutOfBoundsOfNothing() {
        Run run = new Run("IndexOutOfBoundsException: not 0 <= i <= k <= its length.");
        for (String places : new String[] {"0, 1", "1, 1", "-1, 0", "1, 0", "-1, -1", "0, -1"}) {
            run.due("delete(" + places + ")", Run.OUT_OF_BOUNDS);
        }
        run.due("undo()", -1);
    }

    private static void deleteOutOfBoundsOfAFullText() {
        Run run = new Run("IndexOutOfBoundsException: not 0 <= i <= k <= its length.");
        run.fillText(EIGHT);
        for (String places : new String[] {"0, 121", "120, 121", "121, 121", "-1, 120", "120, 119"}) {
            run.due("delete(" + places + ")", Run.OUT_OF_BOUNDS);
        }
        run.textIs(EIGHT.repeat(15));
        run.due("delete(120, 120)", 120);
        run.due("delete(119, 120)", 119);
    }

    private static void deleteLeavesTheTape() {
        Run run = new Run("A call that is told to USE it takes it all, and leaves it empty");
        run.due("abc", "insert(0)", 3);
        run.tape("q");
        run.due("delete(0, 1)", 2);
        run.due("delete(0, 3)", Run.OUT_OF_BOUNDS);
        run.due("undo()", 3);
        run.due("letter(-1)", 3);
        run.due("letter(-2)", "abc".hashCode());
        run.tapeIs("q");
    }

    private static void undoOfNone() {
        Run run = new Run("NONE if there is none.");
        run.due("undo()", -1);
        run.due("undo()", -1);
        run.due("a", "insert(0)", 1);
        run.due("undo()", 0);
        run.due("undo()", -1);
        run.due("undo()", -1);
        run.textIs("");
        run.due("b", "insert(0)", 1);
        run.due("undo()", 0);
        run.due("undo()", -1);
    }

    private static void undoOfNothing() {
        Run run = new Run("Each insert() and delete() that is done (also of nothing) can be taken"
                + " back");
        run.due("insert(0)", 0);
        run.due("delete(0, 0)", 0);
        run.due("ab", "insert(0)", 2);
        run.due("insert(1)", 2);
        run.due("delete(2, 2)", 2);
        for (int length : new int[] {2, 2, 0, 0, 0, -1}) {
            run.due("undo()", length);
        }
    }

    private static void undoOfRefused() {
        Run run = new Run("Each insert() and delete() that is done (also of nothing) can be taken"
                + " back");
        run.due("ab", "insert(0)", 2);
        run.due("x", "insert(3)", Run.OUT_OF_BOUNDS);
        run.due("delete(1, 3)", Run.OUT_OF_BOUNDS);
        run.due("undo()", 0);
        run.due("undo()", -1);
        run = nearlyFull("Each insert() and delete() that is done (also of nothing) can be taken"
                + " back", 3);
        run.due("wxyz", "insert(0)", Run.BAD_STATE);
        run.due("undo()", 120);
        run.due("undo()", 112);
    }

    private static void latestFirst() {
        Run run = new Run("the latest first, at most the latest 20");
        run.due("abc", "insert(0)", 3);
        run.due("xyz", "insert(1)", 6);
        run.due("delete(0, 2)", 4);
        run.due("delete(3, 4)", 3);
        run.textIs("yzb");
        run.due("undo()", 4);
        run.textIs("yzbc");
        run.due("undo()", 6);
        run.textIs("axyzbc");
        run.due("undo()", 3);
        run.textIs("abc");
        run.due("undo()", 0);
        run.textIs("");
    }

    /** Writes a, b, c, .. one ahead of the other. */
    private static void insertOneByOne(Run run, int from, int to) {
        for (int i = from; i < to; i++) {
            run.due(String.valueOf((char) ('a' + i)), "insert(0)", i + 1);
        }
    }

    private static void undoOneByOne(Run run, int from, int to) {
        for (int length = from; length >= to; length--) {
            run.due("undo()", length);
        }
    }

    private static void twentyEdits() {
        Run run = new Run("the latest first, at most the latest 20");
        insertOneByOne(run, 0, 20);
        undoOneByOne(run, 19, 0);
        run.textIs("");
        run.due("undo()", -1);
    }

    private static void twentyOneEdits() {
        Run run = new Run("the latest first, at most the latest 20");
        insertOneByOne(run, 0, 21);
        undoOneByOne(run, 20, 1);
        run.textIs("a");
        run.due("undo()", -1);
        run.due("undo()", -1);
        run.textIs("a");
    }

    private static void twentyDeletes() {
        Run run = new Run("the latest first, at most the latest 20");
        run.fillText(EIGHT);
        for (int i = 1; i <= 21; i++) {
            run.due("delete(1, 2)", 120 - i);
        }
        for (int i = 20; i >= 1; i--) {
            run.due("undo()", 120 - i);
        }
        run.due("undo()", -1);
        run.textIs("a" + EIGHT.repeat(15).substring(2));
    }

    private static void twentyEditsOfNothing() {
        Run run = new Run("Each insert() and delete() that is done (also of nothing) can be taken"
                + " back");
        run.due("ab", "insert(0)", 2);
        for (int i = 0; i < 10; i++) {
            run.due("insert(1)", 2);
            run.due("delete(1, 1)", 2);
        }
        for (int i = 0; i < 20; i++) {
            run.due("undo()", 2);
        }
        run.due("undo()", -1);
        run.textIs("ab");
    }

    private static void twentyEditsToNothing() {
        Run run = new Run("the latest first, at most the latest 20");
        insertOneByOne(run, 0, 20);
        run.due("delete(0, 20)", 0);
        run.due("undo()", 20);
        undoOneByOne(run, 19, 1);
        run.due("undo()", -1);
        run.textIs("a");
    }

    private static void fiveRoundsOfTwenty() {
        Run run = new Run("the latest first, at most the latest 20");
        insertOneByOne(run, 0, 100);
        undoOneByOne(run, 99, 80);
        run.due("undo()", -1);
        run.due("letter(-1)", 80);
        run.due("letter(0)", 'a' + 79);
        run.due("letter(79)", 'a');
    }

    private static void twentyAgain() {
        Run run = new Run("the latest first, at most the latest 20");
        insertOneByOne(run, 0, 30);
        undoOneByOne(run, 29, 10);
        run.due("undo()", -1);
        insertOneByOne(run, 10, 35);
        undoOneByOne(run, 34, 15);
        run.due("undo()", -1);
        run.textIs("onmlkjihgfedcba");
    }

    /** What is taken back makes room: fifteen of the edits before and five new ones are twenty. */
    private static void undoneAreNotAmongTheTwenty() {
        Run run = new Run("The latest edit that has not been is taken back");
        insertOneByOne(run, 0, 20);
        undoOneByOne(run, 19, 15);
        insertOneByOne(run, 15, 20);
        undoOneByOne(run, 19, 0);
        run.due("undo()", -1);
        run = new Run("The latest edit that has not been is taken back");
        insertOneByOne(run, 0, 25);
        undoOneByOne(run, 24, 20);
        run.due("delete(0, 20)", 0);
        undoOneByOne(run, 20, 5);
        run.due("undo()", -1);
        run.textIs("edcba");
    }

    private static void undoOfAFullText() {
        Run run = new Run("The latest edit that has not been is taken back: the length then");
        run.fillText(EIGHT);
        for (int i = 14; i >= 0; i--) {
            run.due("undo()", 8 * i);
        }
        run.due("undo()", -1);
        run.textIs("");
    }

    private static void undoToAFullText() {
        Run run = new Run("The latest edit that has not been is taken back: the length then");
        run.fillText(EIGHT);
        run.due("delete(0, 120)", 0);
        run.due("xyz", "insert(0)", 3);
        run.due("undo()", 0);
        run.due("undo()", 120);
        run.textIs(EIGHT.repeat(15));
        run.due("x", "insert(0)", Run.BAD_STATE);
    }

    private static void undoLeavesTheTape() {
        Run run = new Run("A call that is told to USE it takes it all, and leaves it empty");
        run.tape("q");
        run.due("undo()", -1);
        run.tapeIs("q");
    }

    private static void letters() {
        Run run = new Run("Of the TEXT: character i; for i = -1 its length");
        run.due("\0\uffff\u8000", "insert(0)", 3);
        run.due("letter(0)", 0);
        run.due("letter(1)", 65535);
        run.due("letter(2)", 32768);
        run.due("letter(3)", -1);
        run.due("letter(-1)", 3);
    }

    private static void lettersOfNothing() {
        Run run = new Run("NONE for another i");
        run.due("letter(0)", -1);
        run.due("letter(-1)", 0);
        run.due("abc", "insert(0)", 3);
        run.due("delete(1, 3)", 1);
        run.due("letter(1)", -1);
        run.due("letter(2)", -1);
        run.due("delete(0, 1)", 0);
        run.due("letter(0)", -1);
    }

    private static void lettersOfAFullText() {
        Run run = new Run("Of the TEXT: character i; for i = -1 its length");
        run.fillText("ijklmnop");
        for (int i = 0; i < 120; i++) {
            run.due("letter(" + i + ")", "ijklmnop".charAt(i % 8));
        }
        run.due("letter(120)", -1);
        run.due("letter(121)", -1);
        run.due("letter(-1)", 120);
    }

    private static void noSuchLetter() {
        Run run = new Run("NONE for another i");
        run.due("abc", "insert(0)", 3);
        run.due("letter(3)", -1);
        run.due("letter(-3)", -1);
        for (String i : Run.FAR) {
            run.due("letter(" + i + ")", -1);
        }
    }

    private static final String SUM = "-2 the sum of its characters, each times 31 to the power of"
            + " how many are behind it, as an int";

    private static void sumOfNothing() {
        Run run = new Run(SUM);
        run.due("letter(-2)", 0);
        run.due("\0", "insert(0)", 1);
        run.due("letter(-2)", 0);
        run.due("\0\0\0", "insert(0)", 4);
        run.due("letter(-2)", 0);
        run.due("\1", "insert(4)", 5);
        run.due("letter(-2)", 1);
        run.due("\2", "insert(0)", 6);
        run.due("letter(-2)", 2 * 31 * 31 * 31 * 31 * 31 + 1);
    }

    private static void sumAtTheEndOfInt() {
        Run run = new Run(SUM);
        long most = Integer.MAX_VALUE;
        sumIs(run, most - 1, 2147483646);
        sumIs(run, most, 2147483647);
        sumIs(run, most + 1, -2147483648);
        sumIs(run, most + 2, -2147483647);
        sumIs(run, 2 * most, -2);
        sumIs(run, 2 * most + 2, 0);
        sumIs(run, 2 * most + 3, 1);
        sumIs(run, 3 * most + 2, 2147483647);
        sumIs(run, 3 * most + 3, -2147483648);
    }

    private static void sumThatIsNone() {
        Run run = new Run(SUM);
        sumIs(run, 2L * Integer.MAX_VALUE + 1, -1);
        sumIs(run, 2L * Integer.MAX_VALUE, -2);
    }

    private static void sumIs(Run run, long sum, int asInt) {
        String text = ofSum(sum);
        run.due(text, "insert(0)", text.length());
        run.due("letter(-2)", asInt);
        run.due("undo()", 0);
    }

    /** The text of characters below 31 that has a sum, when it is not taken as an int. */
    private static String ofSum(long sum) {
        String text = "";
        for (long rest = sum; rest > 0; rest /= 31) {
            text = (char) (rest % 31) + text;
        }
        return text;
    }

    private static void sumOfAFullText() {
        for (String eight : new String[] {"\uffff\uffff\uffff\uffff\uffff\uffff\uffff\uffff", EIGHT,
            "\0\0\0\0\0\0\0\u8000"}) {
            Run run = new Run(SUM);
            run.fillText(eight);
            int sum = 0;
            int power = 1;
            for (int i = 119; i >= 0; i--) {
                sum += eight.charAt(i % 8) * power;
                power *= 31;
            }
            run.due("letter(-2)", sum);
        }
    }

    private static void sumFollowsEdits() {
        Run run = new Run(SUM);
        run.due("abc", "insert(0)", 3);
        run.due("letter(-2)", (97 * 31 + 98) * 31 + 99);
        run.due("delete(0, 1)", 2);
        run.due("letter(-2)", 98 * 31 + 99);
        run.due("undo()", 3);
        run.due("letter(-2)", (97 * 31 + 98) * 31 + 99);
        run.due("d", "insert(1)", 4);
        run.due("letter(-2)", ((97 * 31 + 100) * 31 + 98) * 31 + 99);
    }
}
