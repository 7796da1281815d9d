/**
 * The boundary cases that the document names for promises 12 to 14. Each run has the document's
 * words as its title.
 */
public final class WalkBoundsTest {
    public static void main(String[] args) {
        aheadOfTheFirst();
        anewBehindTheLast();
        anewWhenStopped();
        oneForEachView();
        noSuchViewToIterate();
        noSuchViewToGoOn();
        noSuchViewToDrop();
        hasNotBegun();
        hasNotBegunBeforeNone();
        newViewHasNotBegun();
        emptyViews();
        onlyKey();
        fullMap();
        behindTheLast();
        keyHasCome();
        keyHasGone();
        keyHasComeAndGone();
        keyHasGoneAndComeAgain();
        keyHasComeOutsideOfTheView();
        stoppedBeforeNone();
        stoppedByADropOfAnother();
        stoppedSinceItsDrop();
        anotherValueIsNone();
        refusedChangesAreNone();
        otherMapsAreNone();
        droppedByIt();
        dropBehindTheLast();
        dropBehindTheLastTwice();
        dropWithoutNext();
        dropAfterNoneTold();
        dropTwice();
        dropAfterADropAndTheEnd();
        dropWhenStopped();
        dropTheOnlyKey();
        dropAllOfAFullMap();
        dropTurnedRound();
        Run.finish();
    }

    /** An object with a, b, c in map 0, whose iterator has told a. */
    private static Run begun(String title) {
        Run run = new Run(title);
        run.putAll(0, "a", "b", "c");
        run.due("iterate(0)", true);
        run.due("next(0)", 0);
        return run;
    }

    private static void isStopped(Run run, int view) {
        for (int i = 0; i < 2; i++) {
            run.due("next(" + view + ")", Run.BAD_STATE);
            run.due("drop(" + view + ")", Run.BAD_STATE);
        }
    }

    private static void aheadOfTheFirst() {
        Run run = begun("The view's iterator begins anew, ahead of its first key");
        run.due("next(0)", 1);
        run.due("iterate(0)", true);
        run.due("iterate(0)", true);
        run.due("next(0)", 0);
        run.foundIs("a");
    }

    private static void anewBehindTheLast() {
        Run run = begun("The view's iterator begins anew, ahead of its first key");
        run.due("next(0)", 1);
        run.due("next(0)", 2);
        run.due("next(0)", Run.NO_ELEMENT);
        run.due("iterate(0)", true);
        run.due("drop(0)", Run.BAD_STATE);
        run.due("next(0)", 0);
    }

    private static void anewWhenStopped() {
        Run run = begun("The view's iterator begins anew, ahead of its first key");
        run.due("", "put(0, 9)", -1);
        run.due("next(0)", Run.BAD_STATE);
        run.due("iterate(0)", true);
        run.due("next(0)", 9);
        run.due("next(0)", 0);
    }

    private static void oneForEachView() {
        Run run = begun("each view has one, which has not begun at first");
        run.due("view(0, 3)", 3);
        run.due("view(0, 3)", 4);
        run.due("iterate(3)", true);
        run.due("next(4)", Run.BAD_STATE);
        run.due("next(3)", 2);
        run.due("iterate(4)", true);
        run.due("next(0)", 1);
        run.due("next(3)", 1);
        run.due("next(4)", 2);
        run.due("next(0)", 2);
        run.due("next(0)", Run.NO_ELEMENT);
        run.due("next(3)", 0);
    }

    private static void noSuchViewToIterate() {
        Run run = begun("false if there is no such view");
        run.tape("q");
        for (String view : new String[] {"-1", "3", "11", "12"}) {
            run.due("iterate(" + view + ")", false);
        }
        for (String view : Run.FAR) {
            run.due("iterate(" + view + ")", false);
        }
        run.tapeIs("q");
        run.due("next(0)", 1);
        for (int view = 3; view <= 11; view++) {
            run.due("iterate(" + view + ")", false);
            run.due("view(0, 3)", view);
            run.due("iterate(" + view + ")", true);
        }
        run.due("iterate(12)", false);
    }

    private static void noSuchView(String name) {
        Run run = begun("IndexOutOfBoundsException: no such view");
        run.tape("q");
        for (String view : new String[] {"-1", "3", "11", "12"}) {
            run.due(name + "(" + view + ")", Run.OUT_OF_BOUNDS);
        }
        for (String view : Run.FAR) {
            run.due(name + "(" + view + ")", Run.OUT_OF_BOUNDS);
        }
        run.tapeIs("q");
        run.foundIs("a");
        run.due("next(0)", 1);
        run.due("drop(0)", 1);
        run.due("size(0)", 2);
    }

    private static void noSuchViewToGoOn() {
        noSuchView("next");
    }

    private static void noSuchViewToDrop() {
        noSuchView("drop");
    }

    private static void hasNotBegun() {
        Run run = new Run("IllegalStateException: it has not begun");
        run.putAll(0, "a");
        run.due("next(0)", Run.BAD_STATE);
        run.due("drop(0)", Run.BAD_STATE);
        run.due("iterate(1)", true);
        run.due("next(0)", Run.BAD_STATE);
        run.foundIs("");
        run.due("size(0)", 1);
    }

    private static void hasNotBegunBeforeNone() {
        Run run = new Run("Of several exceptions the first one told is thrown");
        run.due("next(2)", Run.BAD_STATE);
        run.due("iterate(2)", true);
        run.due("next(2)", Run.NO_ELEMENT);
    }

    private static void newViewHasNotBegun() {
        Run run = begun("each view has one, which has not begun at first");
        for (int view = 3; view <= 11; view++) {
            run.due("view(0, 2)", view);
            run.due("next(" + view + ")", Run.BAD_STATE);
            run.due("drop(" + view + ")", Run.BAD_STATE);
        }
        run.due("next(0)", 1);
    }

    private static void emptyViews() {
        Run run = new Run("NoSuchElementException: it is behind the last one.");
        run.putAll(0, "a", "c");
        run.due("b", "view(0, 0)", 3);
        for (int view = 1; view <= 3; view += 2) {
            run.due("iterate(" + view + ")", true);
            run.due("next(" + view + ")", Run.NO_ELEMENT);
            run.due("next(" + view + ")", Run.NO_ELEMENT);
            run.due("drop(" + view + ")", Run.BAD_STATE);
        }
        run.foundIs("");
    }

    private static void onlyKey() {
        Run run = new Run("The iterator's next key: its value.");
        run.due("", "put(0, 7)", -1);
        run.due("iterate(0)", true);
        run.due("next(0)", 7);
        run.due("next(0)", Run.NO_ELEMENT);
    }

    private static void fullMap() {
        Run run = new Run("The iterator's next key: its value.");
        run.fill(0);
        run.due("view(0, 3)", 3);
        run.due("iterate(0)", true);
        run.due("iterate(3)", true);
        for (int i = 0; i < 64; i++) {
            run.due("next(0)", i);
            run.due("next(3)", 63 - i);
        }
        run.due("next(0)", Run.NO_ELEMENT);
        run.due("next(3)", Run.NO_ELEMENT);
    }

    private static void behindTheLast() {
        Run run = begun("NoSuchElementException: it is behind the last one.");
        run.due("next(0)", 1);
        run.due("next(0)", 2);
        run.tape("q");
        for (int i = 0; i < 3; i++) {
            run.due("next(0)", Run.NO_ELEMENT);
        }
        run.foundIs("c");
        run.tapeIs("q");
        run.due("size(0)", 3);
    }

    private static void keyHasCome() {
        for (String key : new String[] {"", "a\0", "d"}) {
            Run run = begun("a key has come to or gone from the map but by it");
            run.due(key, "put(0, 9)", -1);
            isStopped(run, 0);
        }
    }

    private static void keyHasGone() {
        for (String key : new String[] {"a", "b", "c"}) {
            Run run = begun("a key has come to or gone from the map but by it");
            run.due(key, "remove(0)", key.charAt(0) - 'a');
            isStopped(run, 0);
        }
        for (String last : new String[] {"true", "false"}) {
            Run run = begun("a key has come to or gone from the map but by it");
            run.due("poll(0, " + last + ")", last.equals("true") ? 2 : 0);
            isStopped(run, 0);
        }
    }

    private static void keyHasComeAndGone() {
        Run run = begun("a key has come to or gone from the map but by it");
        run.due("x", "put(0, 9)", -1);
        run.due("x", "remove(0)", 9);
        isStopped(run, 0);
    }

    private static void keyHasGoneAndComeAgain() {
        Run run = begun("a key has come to or gone from the map but by it");
        run.due("b", "remove(0)", 1);
        run.due("b", "put(0, 1)", -1);
        isStopped(run, 0);
    }

    private static void keyHasComeOutsideOfTheView() {
        Run run = begun("a key has come to or gone from the map but by it");
        run.due("b", "view(0, 0)", 3);
        run.due("iterate(3)", true);
        run.due("next(3)", 1);
        run.due("x", "put(0, 9)", -1);
        isStopped(run, 3);
        run.due("iterate(3)", true);
        run.due("a", "remove(0)", 0);
        isStopped(run, 3);
    }

    private static void stoppedBeforeNone() {
        Run run = begun("Of several exceptions the first one told is thrown");
        run.due("next(0)", 1);
        run.due("next(0)", 2);
        run.due("c", "remove(0)", 2);
        run.due("next(0)", Run.BAD_STATE);
        run.due("poll(0, true)", 1);
        run.due("poll(0, true)", 0);
        run.due("next(0)", Run.BAD_STATE);
    }

    private static void stoppedByADropOfAnother() {
        Run run = begun("a key has come to or gone from the map but by it");
        run.due("view(0, 2)", 3);
        run.due("iterate(3)", true);
        run.due("next(3)", 0);
        run.due("drop(3)", 0);
        isStopped(run, 0);
        run.due("next(3)", 1);
    }

    private static void stoppedSinceItsDrop() {
        Run run = begun("since it began (or since its latest drop())");
        run.due("drop(0)", 0);
        run.due("next(0)", 1);
        run.due("drop(0)", 1);
        run.due("x", "put(0, 9)", -1);
        isStopped(run, 0);
        run = begun("since it began (or since its latest drop())");
        run.due("drop(0)", 0);
        run.due("poll(0, true)", 2);
        isStopped(run, 0);
    }

    private static void anotherValueIsNone() {
        Run run = begun("(another value of a key is none of these)");
        for (String key : new String[] {"a", "b", "c"}) {
            run.due(key, "put(0, 50)", key.charAt(0) - 'a');
        }
        run.due("drop(0)", 50);
        run.due("next(0)", 50);
        run.due("next(0)", 50);
        run.due("next(0)", Run.NO_ELEMENT);
    }

    private static void refusedChangesAreNone() {
        Run run = begun("then nothing is changed (but the tape)");
        run.due("x", "put(0, -1)", Run.BAD_ARGUMENT);
        run.due("x", "remove(0)", -1);
        run.due("b", "view(0, 0)", 3);
        run.due("x", "put(3, 1)", Run.BAD_ARGUMENT);
        run.due("a", "remove(3)", -1);
        run.due("drop(3)", Run.BAD_STATE);
        run.due("poll(1, true)", Run.NO_ELEMENT);
        run.due("at(0, 3)", Run.NO_ELEMENT);
        run.due("next(0)", 1);
        run.due("drop(0)", 1);
        run = new Run("then nothing is changed (but the tape)");
        run.fill(0);
        run.due("iterate(0)", true);
        run.due("x", "put(0, 1)", Run.BAD_STATE);
        run.due("next(0)", 0);
    }

    private static void otherMapsAreNone() {
        Run run = begun("a key has come to or gone from the map but by it");
        run.due("x", "put(1, 1)", -1);
        run.due("x", "put(2, 1)", -1);
        run.due("x", "remove(1)", 1);
        run.due("poll(2, true)", 1);
        run.due("drop(0)", 0);
        run.due("next(0)", 1);
    }

    private static void droppedByIt() {
        Run run = begun("a key has come to or gone from the map but by it");
        run.due("drop(0)", 0);
        run.due("next(0)", 1);
        run.due("drop(0)", 1);
        run.due("next(0)", 2);
        run.due("drop(0)", 2);
        run.due("next(0)", Run.NO_ELEMENT);
        run.due("size(0)", 0);
    }

    private static void dropBehindTheLast() {
        Run run = begun("a next() behind the last one tells none and leaves that of before");
        run.due("next(0)", 1);
        run.due("next(0)", 2);
        run.due("next(0)", Run.NO_ELEMENT);
        run.due("drop(0)", 2);
        run.keysAre(0, "a", "b");
    }

    private static void dropBehindTheLastTwice() {
        Run run = begun("a next() behind the last one tells none and leaves that of before");
        run.due("next(0)", 1);
        run.due("next(0)", 2);
        run.due("next(0)", Run.NO_ELEMENT);
        run.due("next(0)", Run.NO_ELEMENT);
        run.due("next(0)", Run.NO_ELEMENT);
        run.due("drop(0)", 2);
        run.due("drop(0)", Run.BAD_STATE);
        run.due("next(0)", Run.NO_ELEMENT);
        run.keysAre(0, "a", "b");
    }

    private static void dropWithoutNext() {
        Run run = new Run("or there was no next() since it began");
        run.putAll(0, "a", "b");
        run.due("iterate(0)", true);
        run.due("drop(0)", Run.BAD_STATE);
        run.due("next(0)", 0);
        run.due("iterate(0)", true);
        run.due("drop(0)", Run.BAD_STATE);
        run.due("next(0)", 0);
        run.due("size(0)", 2);
    }

    private static void dropAfterNoneTold() {
        Run run = new Run("or there was no next() since it began");
        run.due("iterate(0)", true);
        run.due("next(0)", Run.NO_ELEMENT);
        run.due("drop(0)", Run.BAD_STATE);
        run.due("next(0)", Run.NO_ELEMENT);
    }

    private static void dropTwice() {
        Run run = begun("or the key told has been dropped");
        run.due("next(0)", 1);
        run.due("drop(0)", 1);
        run.due("drop(0)", Run.BAD_STATE);
        run.due("drop(0)", Run.BAD_STATE);
        run.keysAre(0, "a", "c");
        run.due("next(0)", 2);
        run.due("drop(0)", 2);
        run.keysAre(0, "a");
    }

    private static void dropAfterADropAndTheEnd() {
        Run run = begun("or the key told has been dropped");
        run.due("next(0)", 1);
        run.due("next(0)", 2);
        run.due("drop(0)", 2);
        run.due("next(0)", Run.NO_ELEMENT);
        run.due("drop(0)", Run.BAD_STATE);
        run.keysAre(0, "a", "b");
    }

    private static void dropWhenStopped() {
        Run run = begun("IllegalStateException: as with next()");
        run.due("x", "put(0, 9)", -1);
        run.due("drop(0)", Run.BAD_STATE);
        run.due("size(0)", 4);
        run = begun("IllegalStateException: as with next()");
        run.due("a", "remove(0)", 0);
        run.due("drop(0)", Run.BAD_STATE);
        run.due("a", "put(0, 0)", -1);
        run.due("drop(0)", Run.BAD_STATE);
        run.due("size(0)", 3);
    }

    private static void dropTheOnlyKey() {
        Run run = new Run("is removed: its value");
        run.due("abcdefgh", "put(2, 2147483647)", -1);
        run.due("iterate(2)", true);
        run.due("next(2)", 2147483647);
        run.tape("q");
        run.due("drop(2)", 2147483647);
        run.tapeIs("q");
        run.due("next(2)", Run.NO_ELEMENT);
        run.due("size(2)", 0);
    }

    private static void dropAllOfAFullMap() {
        Run run = new Run("is removed: its value");
        run.fill(1);
        run.due("iterate(1)", true);
        for (int i = 0; i < 64; i++) {
            run.due("next(1)", i);
            run.due("drop(1)", i);
        }
        run.due("next(1)", Run.NO_ELEMENT);
        run.due("size(1)", 0);
    }

    private static void dropTurnedRound() {
        Run run = new Run("The key told by the latest next() of the view's iterator");
        run.putAll(0, "a", "b", "ba", "bb", "c");
        run.due("b", "view(0, 0)", 3);
        run.due("view(3, 3)", 4);
        run.due("iterate(4)", true);
        run.due("next(4)", 3);
        run.due("drop(4)", 3);
        run.due("next(4)", 2);
        run.due("next(4)", 1);
        run.due("next(4)", Run.NO_ELEMENT);
        run.due("drop(4)", 1);
        run.keysAre(0, "a", "ba", "c");
    }
}
