/**
 * The boundary cases that the document names for VIEWS and promise 3. Each run has the document's
 * words as its title.
 */
public final class ViewBoundsTest {
    private static final String HIGHEST = "\uffff\uffff\uffff\uffff\uffff\uffff\uffff\uffff";

    public static void main(String[] args) {
        allOfTheMaps();
        beginWithNothing();
        beginWithEight();
        beginWithTheHighest();
        lessThanNothing();
        lessThanTheLeastAbove();
        notLess();
        notLessThanNothing();
        notLessThanTheHighest();
        turnedRoundUsesTheTape();
        turnedRoundWhenEmpty();
        numbers();
        noneAtTwelve();
        usedAtTwelve();
        outOfBoundsAtTwelve();
        noSuchView();
        noSuchSort();
        emptyRange();
        partsThatMeetInOneKey();
        liveWhenEmpty();
        liveWhenFull();
        liveAtItsEnds();
        oddNumberOfTimes();
        ownOrder();
        lessIsByOrder();
        notLessIsByOrder();
        Run.finish();
    }

    private static void allOfTheMaps() {
        Run run = new Run("VIEWS 0, 1, 2 are all of the maps.");
        for (int view = 0; view < 3; view++) {
            run.due("", "put(" + view + ", " + view + ")", -1);
            run.due(HIGHEST, "put(" + view + ", 9)", -1);
        }
        run.due("m", "put(1, 5)", -1);
        for (int view = 0; view < 3; view++) {
            run.due("at(" + view + ", 0)", view);
            run.foundIs("");
            run.due("find(" + view + ", 5)", 9);
            run.foundIs(HIGHEST);
            run.due("size(" + view + ")", view == 1 ? 3 : 2);
        }
    }

    private static void beginWithNothing() {
        Run run = new Run("sort 0: the keys that begin with the tape's text");
        run.due("view(0, 0)", 3);
        run.keysAre(3);
        run.putAll(3, "", "\0", HIGHEST);
        run.keysAre(3, "", "\0", HIGHEST);
    }

    private static void beginWithEight() {
        Run run = new Run("sort 0: the keys that begin with the tape's text");
        run.putAll(0, "abcdefgh", "abcdefg", "abcdefgi", "abcdefgg");
        run.due("abcdefgh", "view(0, 0)", 3);
        run.keysAre(3, "abcdefgh");
        run.due("abcdefg", "view(0, 0)", 4);
        run.keysAre(4, "abcdefg", "abcdefgg", "abcdefgh", "abcdefgi");
        run.due("abcdefgx", "view(0, 0)", 5);
        run.keysAre(5);
    }

    private static void beginWithTheHighest() {
        Run run = new Run("sort 0: the keys that begin with the tape's text");
        run.putAll(0, "\ufffe\uffff", "\uffff", "\uffff\uffff", HIGHEST, "\0", "");
        run.due("\uffff", "view(0, 0)", 3);
        run.keysAre(3, "\uffff", "\uffff\uffff", HIGHEST);
        run.due(HIGHEST, "view(0, 0)", 4);
        run.keysAre(4, HIGHEST);
        run.due("\0", "view(0, 0)", 5);
        run.keysAre(5, "\0");
    }

    private static void lessThanNothing() {
        Run run = new Run("1: those that are less than it by ORDER");
        run.putAll(0, "", "\0", "a");
        run.due("view(0, 1)", 3);
        run.keysAre(3);
        run.due("put(3, 1)", Run.BAD_ARGUMENT);
        run.due("\0", "put(3, 1)", Run.BAD_ARGUMENT);
        run.due("\0", "view(0, 1)", 4);
        run.keysAre(4, "");
    }

    private static void lessThanTheLeastAbove() {
        Run run = new Run("1: those that are less than it by ORDER");
        run.putAll(0, "a", "a\0", "b", "`\uffff");
        run.due("a", "view(0, 1)", 3);
        run.keysAre(3, "`\uffff");
        run.due("a\0", "view(0, 1)", 4);
        run.keysAre(4, "`\uffff", "a");
        run.due("a", "put(3, 1)", Run.BAD_ARGUMENT);
        run.due(HIGHEST, "view(0, 1)", 5);
        run.due("size(5)", 4);
        run.due(HIGHEST, "put(5, 1)", Run.BAD_ARGUMENT);
    }

    private static void notLess() {
        Run run = new Run("2: those that are not");
        run.putAll(0, "a", "a\0", "b", "`\uffff");
        run.due("a", "view(0, 2)", 3);
        run.keysAre(3, "a", "a\0", "b");
        run.due("a\0", "view(0, 2)", 4);
        run.keysAre(4, "a\0", "b");
        run.due("`\uffff", "put(3, 1)", Run.BAD_ARGUMENT);
        run.due("a", "put(3, 9)", 0);
    }

    private static void notLessThanNothing() {
        Run run = new Run("2: those that are not");
        run.due("view(1, 2)", 3);
        run.putAll(3, "", "\0", HIGHEST);
        run.keysAre(3, "", "\0", HIGHEST);
    }

    private static void notLessThanTheHighest() {
        Run run = new Run("2: those that are not");
        run.putAll(0, HIGHEST, "\uffff");
        run.due(HIGHEST, "view(0, 2)", 3);
        run.keysAre(3, HIGHEST);
        run.due("\uffff", "put(3, 1)", Run.BAD_ARGUMENT);
    }

    private static void turnedRoundUsesTheTape() {
        Run run = new Run("by the tape, which is USED (for sort 3, too, and if there are twelve)");
        run.putAll(0, "a", "b", "c");
        run.due("b", "view(0, 3)", 3);
        run.tapeIs("");
        run.keysAre(3, "c", "b", "a");
        run.due("abcdefgh", "view(3, 3)", 4);
        run.tapeIs("");
        run.keysAre(4, "a", "b", "c");
    }

    private static void turnedRoundWhenEmpty() {
        Run run = new Run("3: all, turned round");
        run.due("view(2, 3)", 3);
        run.keysAre(3);
        run.due("a", "put(3, 1)", -1);
        run.keysAre(3, "a");
        run.due("", "put(3, 2)", -1);
        run.keysAre(3, "a", "");
    }

    private static void numbers() {
        Run run = new Run("Others (3 .. 11, in the order in which they are made)");
        for (int view = 3; view <= 11; view++) {
            run.due("size(" + view + ")", -1);
            run.due(String.valueOf((char) ('a' + view)), "view(" + view % 3 + ", 0)", view);
            run.due("size(" + view + ")", 0);
        }
        run.putAll(1, "d", "e", "g");
        run.keysAre(4, "e");
        run.keysAre(7);
        run.due("size(12)", -1);
    }

    /** A new object with all of its twelve views: those of map 0 that begin with a. */
    private static Run twelve(String title) {
        Run run = new Run(title);
        run.putAll(0, "a", "ab", "b");
        for (int view = 3; view <= 11; view++) {
            run.due("a", "view(" + (view == 3 ? 0 : view - 1) + ", 0)", view);
        }
        return run;
    }

    private static void noneAtTwelve() {
        Run run = twelve("NONE if there are twelve");
        for (int sort = 0; sort <= 3; sort++) {
            run.due("b", "view(0, " + sort + ")", -1);
            run.due("b", "view(11, " + sort + ")", -1);
        }
        run.due("size(12)", -1);
        run.keysAre(11, "a", "ab");
        run.keysAre(0, "a", "ab", "b");
    }

    private static void usedAtTwelve() {
        Run run = twelve("by the tape, which is USED (for sort 3, too, and if there are twelve)");
        for (int sort = 0; sort <= 3; sort++) {
            run.due("abcdefgh", "view(0, " + sort + ")", -1);
            run.tapeIs("");
        }
    }

    private static void outOfBoundsAtTwelve() {
        Run run = twelve("IndexOutOfBoundsException: no such view, no such sort.");
        run.tape("xy");
        for (String call : new String[] {"view(12, 0)", "view(-1, 3)", "view(0, 4)", "view(11, -1)",
            "view(12, 4)"}) {
            run.due(call, Run.OUT_OF_BOUNDS);
        }
        run.tapeIs("xy");
    }

    private static void noSuchView() {
        Run run = new Run("IndexOutOfBoundsException: no such view, no such sort.");
        run.tape("xy");
        for (int sort = 0; sort <= 3; sort++) {
            run.due("view(-1, " + sort + ")", Run.OUT_OF_BOUNDS);
            run.due("view(3, " + sort + ")", Run.OUT_OF_BOUNDS);
            run.due("view(11, " + sort + ")", Run.OUT_OF_BOUNDS);
            run.due("view(12, " + sort + ")", Run.OUT_OF_BOUNDS);
            for (String view : Run.FAR) {
                run.due("view(" + view + ", " + sort + ")", Run.OUT_OF_BOUNDS);
            }
        }
        run.due("size(3)", -1);
        run.tapeIs("xy");
        run.due("view(2, 3)", 3);
        run.due("view(4, 3)", Run.OUT_OF_BOUNDS);
        run.due("view(3, 3)", 4);
    }

    private static void noSuchSort() {
        Run run = new Run("IndexOutOfBoundsException: no such view, no such sort.");
        run.tape("xy");
        for (int view = -1; view <= 3; view++) {
            run.due("view(" + view + ", -1)", Run.OUT_OF_BOUNDS);
            run.due("view(" + view + ", 4)", Run.OUT_OF_BOUNDS);
            run.due("view(" + view + ", 5)", Run.OUT_OF_BOUNDS);
            for (String sort : Run.FAR) {
                run.due("view(" + view + ", " + sort + ")", Run.OUT_OF_BOUNDS);
            }
        }
        run.due("size(3)", -1);
        run.tapeIs("xy");
    }

    private static void emptyRange() {
        Run run = new Run("A view has the keys of its map that are in its RANGE");
        run.putAll(0, "a", "b", "c");
        run.due("b", "view(0, 1)", 3);
        run.due("b", "view(3, 2)", 4);
        run.keysAre(4);
        for (String key : new String[] {"", "a", "b", "c", HIGHEST}) {
            run.due(key, "put(4, 1)", Run.BAD_ARGUMENT);
            run.due(key, "get(4)", -1);
            run.due(key, "remove(4)", -1);
        }
        run.due("find(4, 4)", Run.NO_ELEMENT);
        run.due("poll(4, true)", Run.NO_ELEMENT);
        run.due("iterate(4)", true);
        run.due("next(4)", Run.NO_ELEMENT);
        run.due("freeze(4)", 0);
        run.due("a", "match(4, 9)", 0);
        run.keysAre(0, "a", "b", "c");
    }

    private static void partsThatMeetInOneKey() {
        Run run = new Run("A view has the keys of its map that are in its RANGE");
        run.putAll(0, "a", "b", "b\0", "c");
        run.due("b\0", "view(0, 1)", 3);
        run.due("b", "view(3, 2)", 4);
        run.keysAre(4, "b");
        run.due("b\0", "put(4, 1)", Run.BAD_ARGUMENT);
        run.due("b", "put(4, 7)", 1);
        run.due("b", "remove(4)", 7);
        run.due("b", "put(4, 8)", -1);
        run.keysAre(0, "a", "b", "b\0", "c");
    }

    private static void liveWhenEmpty() {
        Run run = new Run("they are live: what is put into or removed from a map is so in all its"
                + " views");
        run.due("b", "view(0, 0)", 3);
        run.due("view(3, 3)", 4);
        run.due("size(4)", 0);
        run.putAll(0, "b", "a", "bb");
        run.keysAre(4, "bb", "b");
        run.due("poll(4, true)", 0);
        run.due("poll(3, true)", 2);
        run.keysAre(3);
        run.keysAre(4);
        run.keysAre(0, "a");
    }

    private static void liveWhenFull() {
        Run run = new Run("they are live: what is put into or removed from a map is so in all its"
                + " views");
        run.due("\u03f0", "view(0, 1)", 3);
        run.due("view(3, 3)", 4);
        run.fill(0);
        run.due("size(3)", 8);
        run.due("size(4)", 8);
        run.due("at(4, 0)", 7);
        run.due("at(4, 7)", 0);
        run.due("at(4, 8)", Run.NO_ELEMENT);
        run.due("\u03ef", "remove(0)", 7);
        run.due("at(4, 0)", 6);
        run.due("a", "put(4, 9)", -1);
        run.due("at(3, 0)", 9);
        run.due("b", "put(4, 9)", Run.BAD_STATE);
        run.due("size(0)", 64);
    }

    private static void liveAtItsEnds() {
        Run run = new Run("they are live: what is put into or removed from a map is so in all its"
                + " views");
        run.putAll(0, "a", "b", "cc", "d", "e");
        run.due("c", "view(0, 0)", 3);
        run.keysAre(3, "cc");
        run.due("a", "remove(0)", 0);
        run.keysAre(3, "cc");
        run.due("poll(0, false)", 1);
        run.due("poll(0, true)", 4);
        run.keysAre(3, "cc");
        run.due("c", "put(0, 9)", -1);
        run.due("cd", "put(0, 9)", -1);
        run.keysAre(3, "c", "cc", "cd");
        run.due("b", "put(0, 9)", -1);
        run.keysAre(3, "c", "cc", "cd");
    }

    private static void oddNumberOfTimes() {
        Run run = new Run("in ORDER, or (turned an odd number of times) the other way");
        run.putAll(0, "a", "b");
        run.due("view(0, 3)", 3);
        for (int view = 4; view <= 9; view++) {
            run.due("view(" + (view - 1) + ", 3)", view);
        }
        run.due("", "view(9, 2)", 10);
        run.due("", "view(8, 0)", 11);
        for (int view = 3; view <= 9; view++) {
            boolean odd = view % 2 == 1;
            run.keysAre(view, odd ? "b" : "a", odd ? "a" : "b");
        }
        run.keysAre(10, "b", "a");
        run.keysAre(11, "a", "b");
    }

    private static void ownOrder() {
        Run run = new Run("Before, behind, first, last are told in the view's own order.");
        run.putAll(0, "a", "b", "c");
        run.due("view(0, 3)", 3);
        run.due("find(3, 4)", 2);
        run.due("find(3, 5)", 0);
        run.due("c", "find(3, 1)", Run.NO_ELEMENT);
        run.due("c", "find(3, 3)", 1);
        run.due("a", "find(3, 3)", Run.NO_ELEMENT);
        run.due("a", "find(3, 1)", 1);
        run.due("z", "find(3, 0)", Run.NO_ELEMENT);
        run.due("z", "find(3, 2)", 2);
        run.due("", "find(3, 2)", Run.NO_ELEMENT);
        run.due("", "find(3, 0)", 0);
        run.due("poll(3, false)", 2);
        run.due("poll(3, true)", 0);
    }

    private static void lessIsByOrder() {
        Run run = new Run("1: those that are less than it by ORDER");
        run.putAll(0, "a", "b", "c");
        run.due("view(0, 3)", 3);
        run.due("b", "view(3, 1)", 4);
        run.keysAre(4, "a");
        run.due("c\0", "view(3, 1)", 5);
        run.keysAre(5, "c", "b", "a");
        run.due("", "view(3, 1)", 6);
        run.keysAre(6);
    }

    private static void notLessIsByOrder() {
        Run run = new Run("2: those that are not");
        run.putAll(0, "a", "b", "c");
        run.due("view(0, 3)", 3);
        run.due("b", "view(3, 2)", 4);
        run.keysAre(4, "c", "b");
        run.due("c\0", "view(3, 2)", 5);
        run.keysAre(5);
        run.due("", "view(3, 2)", 6);
        run.keysAre(6, "c", "b", "a");
    }
}
