/**
 * "A call that is told to USE it takes it all, and leaves it empty, whatever comes of the call (also
 * with an exception), but for an IndexOutOfBoundsException." Of each call of the face: whether it
 * takes the tape, with each of its answers and exceptions.
 */
public final class TapeUseTest {
    private static final String[] TAPES = {"ab", "abababab"};
    private static final String USED = "A call that is told to USE it takes it all, and leaves it"
            + " empty, whatever comes of the call (also with an exception)";
    private static final String LEFT = "but for an IndexOutOfBoundsException";

    public static void main(String[] args) {
        usedWithAnAnswer();
        usedWithNone();
        usedWithAnException();
        usedAtTheLimits();
        usedWhenEmpty();
        leftWithOutOfBounds();
        leftByOthers();
        leftByOthersThatThrow();
        leftByQuestions();
        takesItAll();
        Run.finish();
    }

    /** Map 0 has a, ab, abababab and b, map 1 has 64 keys, map 2 none; view 3 is none of map 0. */
    private static Run prepared(String title) {
        Run run = new Run(title);
        run.putAll(0, "a", "ab", "abababab", "b");
        run.due("x", "view(0, 0)", 3);
        run.fill(1);
        run.due("freeze(0)", 9);
        run.due("ababab", "insert(0)", 6);
        return run;
    }

    private static void after(String call, String tape, String want, String left) {
        Run run = prepared(want.equals(Run.OUT_OF_BOUNDS) ? LEFT : USED);
        run.tape(tape);
        run.due(call, want);
        tapeIs(run, left);
    }

    /** By a key, as a text that is full could not take what may still be there. */
    private static void tapeIs(Run run, String want) {
        run.due("put(2, 5)", -1);
        run.keysAre(2, want);
    }

    private static void used(String call, String... wants) {
        for (int i = 0; i < TAPES.length; i++) {
            after(call, TAPES[i], wants[i % wants.length], "");
        }
    }

    private static void left(String call, String want) {
        for (String tape : TAPES) {
            after(call, tape, want, tape);
        }
    }

    private static void usedWithAnAnswer() {
        for (int sort = 0; sort <= 3; sort++) {
            used("view(0, " + sort + ")", "4");
        }
        used("put(0, 9)", "1", "2");
        used("get(0)", "1", "2");
        used("remove(0)", "1", "2");
        used("find(0, 0)", "1", "2");
        used("find(0, 1)", "0", "1");
        used("find(0, 2)", "1", "2");
        used("find(0, 3)", "2", "3");
        used("find(0, 4)", "0");
        used("find(0, 5)", "3");
        used("find(0, 6)", "1", "2");
        used("match(0, 0)", "1");
        used("edges(5)", "3", "3");
        used("automaton(3)", "2", "8");
        used("automaton(4)", "1");
        used("insert(6)", "8", "14");
        used("locate(0)", "3", "0");
        used("locate(1)", "0", "-1");
    }

    private static void usedWithNone() {
        used("put(0, 0)", "1", "2");
        used("get(3)", "-1");
        used("get(1)", "-1");
        used("remove(3)", "-1");
        used("remove(1)", "-1");
        used("match(3, 9)", "0");
        Run run = new Run("by the tape, which is USED (for sort 3, too, and if there are twelve)");
        for (int view = 3; view < 12; view++) {
            run.due("view(0, 3)", view);
        }
        for (int sort = 0; sort <= 3; sort++) {
            run.due("abcdefgh", "view(0, " + sort + ")", -1);
            run.tapeIs("");
        }
    }

    private static void usedWithAnException() {
        used("put(0, -1)", Run.BAD_ARGUMENT);
        used("put(3, 1)", Run.BAD_ARGUMENT);
        used("put(3, -1)", Run.BAD_ARGUMENT);
        used("put(1, 1)", Run.BAD_STATE);
        for (int how = 0; how <= 6; how++) {
            used("find(3, " + how + ")", Run.NO_ELEMENT);
            used("find(2, " + how + ")", Run.NO_ELEMENT);
        }
        used("match(0, -1)", Run.BAD_ARGUMENT);
        used("match(3, -2147483648)", Run.BAD_ARGUMENT);
    }

    private static void usedAtTheLimits() {
        for (String place : new String[] {"0", "119"}) {
            Run run = new Run(USED);
            run.fillText("abcdefgh");
            run.due("delete(0, 1)", 119);
            run.due("xy", "insert(" + place + ")", Run.BAD_STATE);
            tapeIs(run, "");
        }
    }

    /** An empty tape stays empty, and its text is the empty one. */
    private static void usedWhenEmpty() {
        for (String call : new String[] {"get(0)", "remove(0)", "edges(5)"}) {
            after(call, "", "-1", "");
        }
        after("match(0, 0)", "", "0", "");
        after("automaton(3)", "", "0", "");
        after("automaton(4)", "", "0", "");
        after("insert(3)", "", "6", "");
        after("locate(0)", "", "6", "");
        after("locate(1)", "", "0", "");
        after("put(0, -1)", "", Run.BAD_ARGUMENT, "");
        after("put(1, 1)", "", Run.BAD_STATE, "");
        after("find(0, 6)", "", Run.NO_ELEMENT, "");
    }

    private static void leftWithOutOfBounds() {
        for (String call : new String[] {"view(4, 0)", "view(-1, 3)", "view(0, 4)", "view(0, -1)",
            "put(4, 1)", "put(-1, -1)", "get(4)", "get(-1)", "remove(4)", "remove(-1)",
            "find(4, 0)", "find(-1, 4)", "find(0, 7)", "find(0, -1)", "find(2, 7)", "match(4, 0)",
            "match(-1, -1)", "edges(6)", "edges(-1)", "insert(7)", "insert(-1)"}) {
            left(call, Run.OUT_OF_BOUNDS);
        }
    }

    private static void leftByOthers() {
        left("type(97, 0)", "false");
        left("type(97, 5)", "false");
        left("size(0)", "4");
        left("size(4)", "-1");
        left("at(0, 1)", "1");
        left("poll(0, false)", "0");
        left("poll(0, true)", "3");
        left("found(-1)", "0");
        left("iterate(0)", "true");
        left("iterate(4)", "false");
        left("freeze(0)", "9");
        left("delete(0, 2)", "4");
        left("undo()", "0");
        Run run = prepared(USED);
        run.tape("abababab");
        run.due("iterate(0)", true);
        run.due("next(0)", 0);
        run.due("drop(0)", 0);
        tapeIs(run, "abababab");
    }

    private static void leftByOthersThatThrow() {
        left("at(0, 4)", Run.NO_ELEMENT);
        left("at(4, 0)", Run.OUT_OF_BOUNDS);
        left("poll(3, true)", Run.NO_ELEMENT);
        left("poll(4, true)", Run.OUT_OF_BOUNDS);
        left("next(0)", Run.BAD_STATE);
        left("next(4)", Run.OUT_OF_BOUNDS);
        left("drop(0)", Run.BAD_STATE);
        left("drop(4)", Run.OUT_OF_BOUNDS);
        left("freeze(4)", Run.OUT_OF_BOUNDS);
        left("delete(0, 7)", Run.OUT_OF_BOUNDS);
        Run run = prepared(USED);
        run.due("iterate(3)", true);
        run.tape("abababab");
        run.due("next(3)", Run.NO_ELEMENT);
        run.due("drop(3)", Run.BAD_STATE);
        tapeIs(run, "abababab");
    }

    private static void leftByQuestions() {
        for (int what = 0; what <= 4; what++) {
            left("edges(" + what + ")", new String[] {"3", "1", "0", "2", "0"}[what]);
        }
        left("automaton(0)", "9");
        left("automaton(1)", "9");
        left("automaton(2)", "3");
        left("automaton(-1)", "-1");
        left("automaton(5)", "-1");
        left("letter(-1)", "6");
        left("letter(-2)", String.valueOf("ababab".hashCode()));
        left("letter(0)", "97");
        left("letter(6)", "-1");
        left("suffix(0, 0)", "4");
        left("suffix(1, 1)", "2");
        left("suffix(6, 0)", "-1");
        left("suffix(0, 2)", "-1");
        left("locate(-1)", "-1");
        left("locate(2)", "-1");
    }

    /** Behind a call that uses it the tape has room for eight again, and for no more. */
    private static void takesItAll() {
        Run run = new Run(USED);
        for (String call : new String[] {"get(0)", "locate(0)", "edges(5)", "automaton(3)",
            "match(0, 0)", "remove(1)"}) {
            run.tape("abcdefgh");
            run.due("type(97, 1)", false);
            run.due(call, call.charAt(0) == 'l' || call.charAt(0) == 'm' ? 0 : -1);
            run.tape("12345678");
            run.due("type(97, 1)", false);
            run.tapeIs("12345678");
        }
    }
}
