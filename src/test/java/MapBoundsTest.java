/**
 * The boundary cases that the document names for MAPS and promises 4 to 7. Each run has the
 * document's words as its title.
 */
public final class MapBoundsTest {
    public static void main(String[] args) {
        intoTheViewsMap();
        leastAndGreatestValue();
        valueBeforeIsZero();
        valueBelowZero();
        valueBelowZeroOfAKey();
        valueBelowZeroOfAFullMap();
        keyOutsideOfTheRange();
        keyOutsideOfTheRangeOfAFullMap();
        sixtyFourEach();
        newKeyOfAFullMap();
        oldKeyOfAFullMap();
        newKeyThroughAView();
        roomAgain();
        noSuchViewToPut();
        noSuchViewBeforeAllElse();
        getWhatIsNotThere();
        getOfAnEmptyMap();
        getFromAFullMap();
        getOutsideOfTheView();
        noSuchViewToGet();
        removeWhatIsNotThere();
        removeTheFirstAndTheLast();
        removeAllOfAFullMap();
        removeOutsideOfTheView();
        noSuchViewToRemove();
        sizeOfEmptyAndFull();
        noSuchViewToMeasure();
        Run.finish();
    }

    private static void intoTheViewsMap() {
        Run run = new Run("The tape's text (USED) is a key with this value in the view's map");
        run.due("view(0, 3)", 3);
        run.due("a", "view(1, 0)", 4);
        run.due("view(2, 2)", 5);
        for (int view = 3; view <= 5; view++) {
            run.due("ab", "put(" + view + ", " + view + ")", -1);
            run.due("ab", "put(" + view % 3 + ", 9)", view);
            run.due("ab", "get(" + view + ")", 9);
            run.due("size(" + view % 3 + ")", 1);
        }
    }

    private static void leastAndGreatestValue() {
        Run run = new Run("each with a VALUE (0 .. 2147483647)");
        run.due("a", "put(0, 0)", -1);
        run.due("b", "put(0, 2147483647)", -1);
        run.due("a", "get(0)", 0);
        run.due("b", "get(0)", 2147483647);
        run.due("find(0, 5)", 2147483647);
        run.due("at(0, 0)", 0);
        run.due("iterate(0)", true);
        run.due("next(0)", 0);
        run.due("next(0)", 2147483647);
        run.due("drop(0)", 2147483647);
        run.due("poll(0, false)", 0);
    }

    private static void valueBeforeIsZero() {
        Run run = new Run("its value before, or NONE");
        run.due("a", "put(0, 0)", -1);
        run.due("a", "put(0, 2147483647)", 0);
        run.due("a", "put(0, 0)", 2147483647);
        run.due("a", "put(0, 0)", 0);
        run.due("a", "remove(0)", 0);
        run.due("a", "put(0, 3)", -1);
    }

    private static void valueBelowZero() {
        Run run = new Run("IllegalArgumentException: the value is below 0");
        for (String value : new String[] {"-1", "-2", "-2147483648"}) {
            run.due("a", "put(0, " + value + ")", Run.BAD_ARGUMENT);
            run.tapeIs("");
            run.due("size(0)", 0);
        }
        run.due("a", "put(0, 0)", -1);
    }

    private static void valueBelowZeroOfAKey() {
        Run run = new Run("IllegalArgumentException: the value is below 0");
        run.due("a", "put(0, 7)", -1);
        run.due("a", "put(0, -1)", Run.BAD_ARGUMENT);
        run.due("a", "put(0, -2147483648)", Run.BAD_ARGUMENT);
        run.due("a", "get(0)", 7);
    }

    private static void valueBelowZeroOfAFullMap() {
        Run run = new Run("Of several exceptions the first one told is thrown");
        run.fill(0);
        run.due("a", "put(0, -1)", Run.BAD_ARGUMENT);
        run.due("\u03e8", "put(0, -1)", Run.BAD_ARGUMENT);
        run.due("\u03e8", "get(0)", 0);
        run.due("size(0)", 64);
    }

    private static void keyOutsideOfTheRange() {
        Run run = new Run("or the key not in the view's RANGE");
        run.putAll(0, "a", "b", "c");
        run.due("b", "view(0, 0)", 3);
        run.due("view(3, 3)", 4);
        for (int view = 3; view <= 4; view++) {
            for (String key : new String[] {"", "a", "a\uffff", "c", "\0b"}) {
                run.due(key, "put(" + view + ", 9)", Run.BAD_ARGUMENT);
                run.tapeIs("");
            }
        }
        run.due("b\0", "put(3, 9)", -1);
        run.due("b\uffff", "put(4, 9)", -1);
        run.due("a", "get(0)", 0);
        run.due("c", "get(0)", 2);
        run.due("size(0)", 5);
    }

    private static void keyOutsideOfTheRangeOfAFullMap() {
        Run run = new Run("Of several exceptions the first one told is thrown");
        run.due("b", "view(0, 0)", 3);
        run.fill(0);
        run.due("a", "put(3, 1)", Run.BAD_ARGUMENT);
        run.due("a", "put(3, -1)", Run.BAD_ARGUMENT);
        run.due("\u03e8", "put(3, 1)", Run.BAD_ARGUMENT);
        run.due("b", "put(3, 1)", Run.BAD_STATE);
        run.due("\u03e8", "get(0)", 0);
    }

    private static void sixtyFourEach() {
        Run run = new Run("MAPS 0, 1, 2 have at most 64 KEYS each");
        for (int map = 0; map < 3; map++) {
            run.fill(map);
        }
        for (int map = 0; map < 3; map++) {
            run.due("size(" + map + ")", 64);
            run.due("at(" + map + ", 63)", 63);
            run.due("a", "put(" + map + ", 1)", Run.BAD_STATE);
            run.due("", "put(" + map + ", 1)", Run.BAD_STATE);
            run.due("\uffff", "put(" + map + ", 1)", Run.BAD_STATE);
            run.due("size(" + map + ")", 64);
        }
    }

    private static void newKeyOfAFullMap() {
        Run run = new Run("IllegalStateException: it is new, and the map has 64.");
        run.fill(1);
        for (String key : new String[] {"", "a", "\u03e8\0", "\u0400a", "\u0427\0", "\u0428"}) {
            run.due(key, "put(1, 5)", Run.BAD_STATE);
            run.tapeIs("");
            run.due(key, "get(1)", -1);
        }
        for (int k = 0; k < 64; k++) {
            run.due("at(1, " + k + ")", k);
        }
        run.due("size(1)", 64);
    }

    private static void oldKeyOfAFullMap() {
        Run run = new Run("IllegalStateException: it is new, and the map has 64.");
        run.fill(1);
        run.due("\u03e8", "put(1, 100)", 0);
        run.due("\u0400", "put(1, 101)", 24);
        run.due("\u0427", "put(1, 102)", 63);
        run.due("at(1, 0)", 100);
        run.due("at(1, 24)", 101);
        run.due("at(1, 63)", 102);
        run.due("size(1)", 64);
    }

    private static void newKeyThroughAView() {
        Run run = new Run("IllegalStateException: it is new, and the map has 64.");
        run.due("a", "view(2, 0)", 3);
        run.due("view(3, 3)", 4);
        run.fill(2);
        run.due("size(3)", 0);
        run.due("a", "put(3, 1)", Run.BAD_STATE);
        run.due("a", "put(4, 1)", Run.BAD_STATE);
        run.due("poll(2, true)", 63);
        run.due("a", "put(4, 1)", -1);
        run.due("ab", "put(3, 1)", Run.BAD_STATE);
        run.due("a", "put(3, 2)", 1);
    }

    private static void roomAgain() {
        Run run = new Run("MAPS 0, 1, 2 have at most 64 KEYS each");
        run.fill(0);
        run.due("\u0400", "remove(0)", 24);
        run.due("size(0)", 63);
        run.due("b", "put(0, 5)", -1);
        run.due("c", "put(0, 5)", Run.BAD_STATE);
        run.due("poll(0, false)", 5);
        run.due("c", "put(0, 6)", -1);
        run.due("d", "put(0, 6)", Run.BAD_STATE);
        run.due("iterate(0)", true);
        run.due("next(0)", 6);
        run.due("drop(0)", 6);
        run.due("d", "put(0, 7)", -1);
        run.due("e", "put(0, 7)", Run.BAD_STATE);
        run.due("a", "put(1, 7)", -1);
    }

    private static void noSuchView(String call) {
        Run run = new Run("IndexOutOfBoundsException: no such view");
        run.putAll(2, "ab");
        run.tape("ab");
        for (String view : new String[] {"-1", "3", "11", "12"}) {
            run.due(call.replace("VIEW", view), Run.OUT_OF_BOUNDS);
        }
        for (String view : Run.FAR) {
            run.due(call.replace("VIEW", view), Run.OUT_OF_BOUNDS);
        }
        run.tapeIs("ab");
        run.due("view(0, 3)", 3);
        run.due(call.replace("VIEW", "4"), Run.OUT_OF_BOUNDS);
        run.keysAre(2, "ab");
    }

    private static void noSuchViewToPut() {
        noSuchView("put(VIEW, 5)");
    }

    private static void noSuchViewBeforeAllElse() {
        noSuchView("put(VIEW, -1)");
        Run run = new Run("Of several exceptions the first one told is thrown");
        run.fill(0);
        run.tape("a");
        run.due("put(3, -1)", Run.OUT_OF_BOUNDS);
        run.due("put(-1, 1)", Run.OUT_OF_BOUNDS);
        run.tapeIs("a");
    }

    private static void getWhatIsNotThere() {
        Run run = new Run("NONE if it is not there");
        run.putAll(0, "b", "bcd");
        for (String key : new String[] {"", "a", "bc", "b\0", "bcde", "c"}) {
            run.due(key, "get(0)", -1);
            run.tapeIs("");
        }
        run.due("b", "get(0)", 0);
        run.due("bcd", "get(0)", 1);
        run.due("b", "get(1)", -1);
        run.due("size(0)", 2);
    }

    private static void getOfAnEmptyMap() {
        Run run = new Run("NONE if it is not there");
        for (int map = 0; map < 3; map++) {
            run.due("", "get(" + map + ")", -1);
            run.due("abcdefgh", "get(" + map + ")", -1);
            run.due("size(" + map + ")", 0);
        }
    }

    private static void getFromAFullMap() {
        Run run = new Run("The value of the tape's text (USED) in a view");
        run.fill(0);
        for (int i = 0; i < 64; i++) {
            run.due(String.valueOf((char) (1000 + i)), "get(0)", i);
        }
        run.due("\u03e7", "get(0)", -1);
        run.due("\u0428", "get(0)", -1);
    }

    private static void getOutsideOfTheView() {
        Run run = new Run("NONE if it is not there");
        run.putAll(0, "a", "b", "c");
        run.due("b", "view(0, 1)", 3);
        run.due("b", "view(0, 2)", 4);
        run.due("b", "view(0, 0)", 5);
        int[][] due = {{0, -1, -1}, {-1, 1, 2}, {-1, 1, -1}};
        for (int view = 3; view <= 5; view++) {
            for (int key = 0; key < 3; key++) {
                run.due("abc".substring(key, key + 1), "get(" + view + ")", due[view - 3][key]);
            }
        }
    }

    private static void noSuchViewToGet() {
        noSuchView("get(VIEW)");
    }

    private static void removeWhatIsNotThere() {
        Run run = new Run("NONE if it was not there");
        run.due("", "remove(0)", -1);
        run.putAll(0, "b", "bcd");
        for (String key : new String[] {"", "a", "bc", "b\0", "bcde", "c"}) {
            run.due(key, "remove(0)", -1);
            run.tapeIs("");
        }
        run.due("b", "remove(1)", -1);
        run.keysAre(0, "b", "bcd");
        run.due("b", "remove(0)", 0);
        run.due("b", "remove(0)", -1);
        run.keysAre(0, "bcd");
    }

    private static void removeTheFirstAndTheLast() {
        Run run = new Run("The tape's text (USED) is removed from a view");
        run.putAll(0, "a", "b", "c", "d");
        run.due("a", "remove(0)", 0);
        run.keysAre(0, "b", "c", "d");
        run.due("d", "remove(0)", 3);
        run.keysAre(0, "b", "c");
        run.due("c", "remove(0)", 2);
        run.due("b", "remove(0)", 1);
        run.keysAre(0);
    }

    private static void removeAllOfAFullMap() {
        Run run = new Run("The tape's text (USED) is removed from a view");
        run.fill(0);
        for (int i = 0; i < 64; i++) {
            int odd = i * 37 % 64;
            run.due(String.valueOf((char) (1000 + odd)), "remove(0)", odd);
            run.due("size(0)", 63 - i);
        }
        run.due("a", "put(0, 1)", -1);
        run.keysAre(0, "a");
    }

    private static void removeOutsideOfTheView() {
        Run run = new Run("NONE if it was not there");
        run.putAll(0, "a", "b", "c");
        run.due("b", "view(0, 1)", 3);
        run.due("b", "view(0, 2)", 4);
        run.due("b", "view(0, 0)", 5);
        run.due("b", "remove(3)", -1);
        run.due("a", "remove(4)", -1);
        run.due("c", "remove(5)", -1);
        run.keysAre(0, "a", "b", "c");
        run.due("a", "remove(3)", 0);
        run.due("c", "remove(4)", 2);
        run.due("b", "remove(5)", 1);
        run.keysAre(0);
    }

    private static void noSuchViewToRemove() {
        noSuchView("remove(VIEW)");
    }

    private static void sizeOfEmptyAndFull() {
        Run run = new Run("How many keys a view has");
        run.due("size(2)", 0);
        run.due("a", "put(2, 1)", -1);
        run.due("size(2)", 1);
        run.due("a", "put(2, 2)", 1);
        run.due("size(2)", 1);
        run.due("a", "remove(2)", 2);
        run.due("size(2)", 0);
        run.due("x", "view(2, 2)", 3);
        run.fill(2);
        run.due("size(2)", 64);
        run.due("size(3)", 64);
        run.due("poll(3, false)", 0);
        run.due("size(3)", 63);
        run.due("a", "put(2, 1)", -1);
        run.due("size(2)", 64);
        run.due("size(3)", 63);
    }

    private static void noSuchViewToMeasure() {
        Run run = new Run("NONE if there is none such");
        run.due("size(-1)", -1);
        for (int view = 3; view <= 12; view++) {
            run.due("size(" + view + ")", -1);
        }
        for (String view : Run.FAR) {
            run.due("size(" + view + ")", -1);
        }
        for (int view = 3; view <= 11; view++) {
            run.due("view(0, 3)", view);
        }
        run.due("size(11)", 0);
        run.due("size(12)", -1);
    }
}
