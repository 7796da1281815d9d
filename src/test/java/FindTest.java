/** Promises 8 to 11: find, at, poll, found. */
public final class FindTest {
    public static void main(String[] args) {
        neighbours();
        neighboursTurnedRound();
        neighboursInRange();
        longestStart();
        at();
        poll();
        found();
        findUsesTheTape();
        wrongInputs();
        Run.finish();
    }

    /** The values due for how 0 to 3; below 0 there is none. */
    private static void neighbours(Run run, int view, String text, int... want) {
        for (int how = 0; how < 4; how++) {
            String call = "find(" + view + ", " + how + ")";
            run.due(text, call, want[how] < 0 ? Run.NO_ELEMENT : String.valueOf(want[how]));
        }
    }

    private static void neighbours() {
        Run run = new Run("neighbours");
        run.putAll(0, "b", "bb", "d");
        neighbours(run, 0, "b", 0, -1, 0, 1);
        neighbours(run, 0, "ba", 0, 0, 1, 1);
        neighbours(run, 0, "bb", 1, 0, 1, 2);
        neighbours(run, 0, "d", 2, 1, 2, -1);
        neighbours(run, 0, "", -1, -1, 0, 0);
        neighbours(run, 0, "z", 2, 2, -1, -1);
        run.due("find(0, 4)", 0);
        run.foundIs("b");
        run.due("find(0, 5)", 2);
        run.foundIs("d");
        neighbours(run, 1, "b", -1, -1, -1, -1);
        run.due("find(1, 4)", Run.NO_ELEMENT);
        run.due("find(1, 5)", Run.NO_ELEMENT);
    }

    private static void neighboursTurnedRound() {
        Run run = new Run("neighbours in a view that is turned round");
        run.putAll(0, "b", "bb", "d");
        run.due("view(0, 3)", 3);
        neighbours(run, 3, "b", 0, 1, 0, -1);
        neighbours(run, 3, "ba", 1, 1, 0, 0);
        neighbours(run, 3, "bb", 1, 2, 1, 0);
        neighbours(run, 3, "d", 2, -1, 2, 1);
        neighbours(run, 3, "", 0, 0, -1, -1);
        neighbours(run, 3, "z", -1, -1, 2, 2);
        run.due("find(3, 4)", 2);
        run.due("find(3, 5)", 0);
    }

    private static void neighboursInRange() {
        Run run = new Run("the text need not be in RANGE");
        run.putAll(0, "a", "b", "bb", "c");
        run.due("b", "view(0, 0)", 3);
        neighbours(run, 3, "a", -1, -1, 1, 1);
        neighbours(run, 3, "x", 2, 2, -1, -1);
        neighbours(run, 3, "c", 2, 2, -1, -1);
        run.due("view(3, 3)", 4);
        neighbours(run, 4, "a", 1, 1, -1, -1);
        neighbours(run, 4, "x", -1, -1, 2, 2);
        run.due("find(3, 4)", 1);
        run.due("find(3, 5)", 2);
        run.due("q", "view(0, 0)", 5);
        neighbours(run, 5, "q", -1, -1, -1, -1);
    }

    private static void longestStart() {
        Run run = new Run("the longest one with which the text begins");
        run.putAll(0, "a", "ab", "abcd", "abx", "b");
        run.due("abc", "find(0, 6)", 1);
        run.foundIs("ab");
        run.due("abcd", "find(0, 6)", 2);
        run.due("abcdefgh", "find(0, 6)", 2);
        run.due("aa", "find(0, 6)", 0);
        run.due("c", "find(0, 6)", Run.NO_ELEMENT);
        run.due("", "find(0, 6)", Run.NO_ELEMENT);
        run.due("", "put(0, 9)", -1);
        run.due("c", "find(0, 6)", 9);
        run.foundIs("");
        run.due("", "find(0, 6)", 9);
        run.due("view(0, 3)", 3);
        run.due("abc", "find(3, 6)", 1);
        run.due("ab", "view(0, 1)", 4);
        run.due("abc", "find(4, 6)", 0);
        run.due("abc", "view(3, 2)", 5);
        run.due("abc", "find(5, 6)", Run.NO_ELEMENT);
    }

    private static void at() {
        Run run = new Run("at");
        run.putAll(0, "c", "a", "b");
        run.due("at(0, 0)", 1);
        run.foundIs("a");
        run.due("at(0, 2)", 0);
        run.foundIs("c");
        run.due("view(0, 3)", 3);
        run.due("at(3, 0)", 0);
        run.due("at(3, 2)", 1);
        run.due("b", "view(3, 2)", 4);
        run.due("at(4, 1)", 2);
        run.due("at(4, 2)", Run.NO_ELEMENT);
        run.due("at(0, 3)", Run.NO_ELEMENT);
        run.due("at(0, -1)", Run.NO_ELEMENT);
        run.due("at(0, 2147483647)", Run.NO_ELEMENT);
        run.due("at(0, -2147483648)", Run.NO_ELEMENT);
        run.foundIs("b");
        run.tape("q");
        run.due("at(0, 0)", 1);
        run.tapeIs("q");
    }

    private static void poll() {
        Run run = new Run("poll");
        run.putAll(0, "a", "b", "bb", "c", "d");
        run.due("b", "view(0, 0)", 3);
        run.due("view(0, 3)", 4);
        run.due("poll(0, false)", 0);
        run.foundIs("a");
        run.due("poll(0, true)", 4);
        run.foundIs("d");
        run.due("poll(4, false)", 3);
        run.foundIs("c");
        run.due("poll(3, true)", 2);
        run.keysAre(0, "b");
        run.due("poll(4, true)", 1);
        run.due("poll(4, true)", Run.NO_ELEMENT);
        run.due("poll(3, false)", Run.NO_ELEMENT);
        run.foundIs("b");
        run.putAll(0, "a");
        run.due("poll(3, false)", Run.NO_ELEMENT);
        run.tape("q");
        run.due("poll(0, false)", 0);
        run.tapeIs("q");
    }

    private static void found() {
        Run run = new Run("found");
        run.due("found(-1)", 0);
        run.due("found(0)", -1);
        run.putAll(0, "ab\uffff", "x");
        run.due("find(0, 4)", 0);
        run.due("found(-1)", 3);
        run.due("found(0)", 'a');
        run.due("found(1)", 'b');
        run.due("found(2)", 65535);
        run.due("found(3)", -1);
        run.due("found(7)", -1);
        run.due("found(8)", -1);
        run.due("found(-2)", -1);
        run.due("found(2147483647)", -1);
        run.due("found(-2147483648)", -1);
        othersLeaveFound(run);
    }

    private static void othersLeaveFound(Run run) {
        run.due("x", "get(0)", 1);
        run.due("x", "find(0, 3)", Run.NO_ELEMENT);
        run.due("find(0, 7)", Run.OUT_OF_BOUNDS);
        run.due("at(0, 2)", Run.NO_ELEMENT);
        run.due("poll(1, true)", Run.NO_ELEMENT);
        run.due("next(0)", Run.BAD_STATE);
        run.due("ab\uffff", "remove(0)", 0);
        run.foundIs("ab\uffff");
        run.due("iterate(0)", true);
        run.foundIs("ab\uffff");
        run.due("next(0)", 1);
        run.foundIs("x");
        run.putAll(0, "a");
        run.due("at(0, 0)", 0);
        run.due("iterate(0)", true);
        run.due("next(0)", 0);
        run.due("next(0)", 1);
        run.due("at(0, 0)", 0);
        run.due("drop(0)", 1);
        run.foundIs("a");
        run.due("poll(0, true)", 0);
        run.putAll(0, "zz");
        run.foundIs("a");
    }

    private static void findUsesTheTape() {
        Run run = new Run("find uses the tape");
        run.putAll(0, "a");
        for (int how = 0; how < 7; how++) {
            run.tape("a");
            run.due("find(0, " + how + ")", how == 1 || how == 3 ? Run.NO_ELEMENT : "0");
            run.tapeIs("");
        }
    }

    private static void wrongInputs() {
        Run run = new Run("no such view, no such how");
        run.putAll(0, "a");
        run.tape("a");
        for (String call : new String[] {"find(3, 4)", "find(-1, 4)", "find(0, 7)", "find(0, -1)",
            "find(0, -2147483648)", "find(-1, 9)", "at(3, 0)", "at(-1, 0)", "at(12, -1)",
            "poll(3, true)", "poll(-1, false)", "poll(12, false)"}) {
            run.due(call, Run.OUT_OF_BOUNDS);
        }
        run.tapeIs("a");
    }
}
