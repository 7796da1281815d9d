/** Promises 12 to 14: iterate, next, drop. */
public final class WalkTest {
    public static void main(String[] args) {
        goesThroughTheView();
        beginsAnew();
        drops();
        dropsInParts();
        dropAtTheEnd();
        noticesOthers();
        leavesOtherMapsAlone();
        otherIteratorsDropIsNoticed();
        wrongInputs();
        Run.finish();
    }

    private static void goesThroughTheView() {
        Run run = new Run("goes through the view in its order");
        run.putAll(0, "b", "a", "c", "bb");
        run.due("b", "view(0, 2)", 3);
        run.due("view(3, 3)", 4);
        walk(run, 0, 1, 0, 3, 2);
        walk(run, 3, 0, 3, 2);
        walk(run, 4, 2, 3, 0);
        walk(run, 1);
    }

    private static void walk(Run run, int view, int... values) {
        run.due("iterate(" + view + ")", true);
        for (int value : values) {
            run.due("next(" + view + ")", value);
        }
        run.due("next(" + view + ")", Run.NO_ELEMENT);
        run.due("next(" + view + ")", Run.NO_ELEMENT);
    }

    private static void beginsAnew() {
        Run run = new Run("begins anew");
        run.putAll(0, "a", "b");
        run.due("next(0)", Run.BAD_STATE);
        run.due("drop(0)", Run.BAD_STATE);
        run.due("iterate(0)", true);
        run.due("view(0, 3)", 3);
        run.due("next(3)", Run.BAD_STATE);
        run.due("next(0)", 0);
        run.due("iterate(0)", true);
        run.due("drop(0)", Run.BAD_STATE);
        run.due("next(0)", 0);
        run.foundIs("a");
        run.tape("q");
        run.due("next(0)", 1);
        run.due("drop(0)", 1);
        run.due("iterate(0)", true);
        run.tapeIs("q");
    }

    private static void drops() {
        Run run = new Run("drops the key told");
        run.putAll(0, "a", "b", "c", "d");
        run.due("iterate(0)", true);
        run.due("drop(0)", Run.BAD_STATE);
        run.due("next(0)", 0);
        run.due("next(0)", 1);
        run.due("b", "put(0, 11)", 1);
        run.due("drop(0)", 11);
        run.due("drop(0)", Run.BAD_STATE);
        run.keysAre(0, "a", "c", "d");
        run.due("next(0)", 2);
        run.due("drop(0)", 2);
        run.due("next(0)", 3);
        run.due("next(0)", Run.NO_ELEMENT);
        run.keysAre(0, "a", "d");
    }

    private static void dropsInParts() {
        Run run = new Run("drops in a part that is turned round");
        run.putAll(0, "a", "b", "ba", "bb", "c");
        run.due("b", "view(0, 0)", 3);
        run.due("view(3, 3)", 4);
        run.due("iterate(4)", true);
        run.due("next(4)", 3);
        run.due("next(4)", 2);
        run.due("drop(4)", 2);
        run.due("next(4)", 1);
        run.due("drop(4)", 1);
        run.due("next(4)", Run.NO_ELEMENT);
        run.keysAre(0, "a", "bb", "c");
    }

    private static void dropAtTheEnd() {
        Run run = new Run("a next() behind the last one leaves the key told");
        run.putAll(0, "a", "b");
        run.due("iterate(0)", true);
        run.due("next(0)", 0);
        run.due("next(0)", 1);
        run.due("next(0)", Run.NO_ELEMENT);
        run.foundIs("b");
        run.due("drop(0)", 1);
        run.due("next(0)", Run.NO_ELEMENT);
        run.due("drop(0)", Run.BAD_STATE);
        run.keysAre(0, "a");
        run.due("iterate(1)", true);
        run.due("next(1)", Run.NO_ELEMENT);
        run.due("drop(1)", Run.BAD_STATE);
    }

    /** An iterator that has told a key, ahead of what another one does. */
    private static Run begun(String title) {
        Run run = new Run(title);
        run.putAll(0, "a", "b", "c");
        run.due("iterate(0)", true);
        run.due("next(0)", 0);
        return run;
    }

    private static void isStopped(Run run) {
        run.due("next(0)", Run.BAD_STATE);
        run.due("drop(0)", Run.BAD_STATE);
        run.due("next(0)", Run.BAD_STATE);
        run.due("iterate(0)", true);
        run.due("drop(0)", Run.BAD_STATE);
        run.due("next(0)", 0);
    }

    private static void noticesOthers() {
        Run run = begun("notices a key that comes");
        run.due("x", "put(0, 5)", -1);
        isStopped(run);
        run = begun("notices a key that goes");
        run.due("b", "remove(0)", 1);
        isStopped(run);
        run = begun("notices a key that is polled");
        run.due("poll(0, true)", 2);
        isStopped(run);
        run = begun("notices a key that comes and goes");
        run.due("x", "put(0, 5)", -1);
        run.due("x", "remove(0)", 5);
        isStopped(run);
        run = begun("notices it behind the last one, too");
        run.due("next(0)", 1);
        run.due("next(0)", 2);
        run.due("x", "put(0, 5)", -1);
        run.due("next(0)", Run.BAD_STATE);
        run = begun("notices what comes outside of its view");
        run.due("a", "view(0, 0)", 3);
        run.due("iterate(3)", true);
        run.due("x", "put(0, 5)", -1);
        run.due("next(3)", Run.BAD_STATE);
        run = begun("notices what comes behind a drop()");
        run.due("drop(0)", 0);
        run.due("x", "put(0, 5)", -1);
        run.due("next(0)", Run.BAD_STATE);
    }

    private static void leavesOtherMapsAlone() {
        Run run = begun("what changes no key of the map");
        run.due("b", "put(0, 12)", 1);
        run.due("x", "put(1, 5)", -1);
        run.due("x", "remove(0)", -1);
        run.due("x", "put(0, -1)", Run.BAD_ARGUMENT);
        run.due("view(0, 3)", 3);
        run.due("iterate(3)", true);
        run.due("next(3)", 2);
        run.due("at(0, 0)", 0);
        run.due("next(0)", 12);
        run.due("next(0)", 2);
        run.due("drop(0)", 2);
        run.due("next(0)", Run.NO_ELEMENT);
    }

    private static void otherIteratorsDropIsNoticed() {
        Run run = begun("a drop() of another iterator");
        run.due("view(0, 3)", 3);
        run.due("iterate(3)", true);
        run.due("next(3)", 2);
        run.due("drop(3)", 2);
        run.due("next(0)", Run.BAD_STATE);
        run.due("drop(0)", Run.BAD_STATE);
        run.due("next(3)", 1);
    }

    private static void wrongInputs() {
        Run run = new Run("no such view");
        for (String view : new String[] {"3", "-1", "12", "2147483647", "-2147483648"}) {
            run.due("iterate(" + view + ")", false);
            run.due("next(" + view + ")", Run.OUT_OF_BOUNDS);
            run.due("drop(" + view + ")", Run.OUT_OF_BOUNDS);
        }
    }
}
