/**
 * The boundary cases that the document names for FOUND and promises 8 to 11. Each run has the
 * document's words as its title.
 */
public final class FindBoundsTest {
    private static final String HIGHEST = "\uffff\uffff\uffff\uffff\uffff\uffff\uffff\uffff";

    public static void main(String[] args) {
        lastNotBehind();
        lastBefore();
        firstNotBefore();
        firstBehind();
        firstAndLastOfOne();
        textNeedNotBeInRange();
        longestOfNothing();
        longestOfEight();
        longestInAView();
        usedWhereItDoesNotMatter();
        noneInAnEmptyMap();
        noneInAnEmptyView();
        allOfAFullMap();
        noSuchViewToFind();
        noSuchHow();
        noSuchHowBeforeNone();
        atTheEnds();
        atNone();
        atOfAFullMap();
        noSuchViewAt();
        pollToTheEnd();
        pollNone();
        pollAFullMap();
        noSuchViewToPoll();
        foundCharacters();
        foundOfEight();
        foundOfNone();
        othersLeaveFound();
        whatThrewLeavesFound();
        foundOfEachTeller();
        Run.finish();
    }

    private static void lastNotBehind() {
        Run run = new Run("0 the last one not behind t");
        run.putAll(0, "b", "d");
        run.due("", "find(0, 0)", Run.NO_ELEMENT);
        run.due("a\uffff", "find(0, 0)", Run.NO_ELEMENT);
        run.due("b", "find(0, 0)", 0);
        run.due("b\0", "find(0, 0)", 0);
        run.due("c\uffff", "find(0, 0)", 0);
        run.due("d", "find(0, 0)", 1);
        run.due(HIGHEST, "find(0, 0)", 1);
    }

    private static void lastBefore() {
        Run run = new Run("1 the last one before t");
        run.putAll(0, "b", "d");
        run.due("", "find(0, 1)", Run.NO_ELEMENT);
        run.due("b", "find(0, 1)", Run.NO_ELEMENT);
        run.due("b\0", "find(0, 1)", 0);
        run.due("d", "find(0, 1)", 0);
        run.due("d\0", "find(0, 1)", 1);
        run.due(HIGHEST, "find(0, 1)", 1);
    }

    private static void firstNotBefore() {
        Run run = new Run("2 the first one not before t");
        run.putAll(0, "b", "d");
        run.due("", "find(0, 2)", 0);
        run.due("b", "find(0, 2)", 0);
        run.due("b\0", "find(0, 2)", 1);
        run.due("d", "find(0, 2)", 1);
        run.due("d\0", "find(0, 2)", Run.NO_ELEMENT);
        run.due(HIGHEST, "find(0, 2)", Run.NO_ELEMENT);
    }

    private static void firstBehind() {
        Run run = new Run("3 the first one behind t");
        run.putAll(0, "b", "d");
        run.due("", "find(0, 3)", 0);
        run.due("a\uffff", "find(0, 3)", 0);
        run.due("b", "find(0, 3)", 1);
        run.due("c\uffff", "find(0, 3)", 1);
        run.due("d", "find(0, 3)", Run.NO_ELEMENT);
        run.due(HIGHEST, "find(0, 3)", Run.NO_ELEMENT);
    }

    private static void firstAndLastOfOne() {
        Run run = new Run("4 the first one, 5 the last one");
        run.due("m", "put(0, 6)", -1);
        run.due("find(0, 4)", 6);
        run.foundIs("m");
        run.due("find(0, 5)", 6);
        run.foundIs("m");
        run.due("m", "remove(0)", 6);
        run.due("find(0, 4)", Run.NO_ELEMENT);
        run.due("find(0, 5)", Run.NO_ELEMENT);
    }

    private static void textNeedNotBeInRange() {
        Run run = new Run("(t need not be in RANGE)");
        run.putAll(0, "a", "b", "bb", "c");
        run.due("b", "view(0, 0)", 3);
        run.due("view(3, 3)", 4);
        String none = Run.NO_ELEMENT;
        String[][] due = {{none, none, "1", "1"}, {"2", "2", none, none}};
        for (int how = 0; how < 4; how++) {
            run.due("", "find(3, " + how + ")", due[0][how]);
            run.due("a", "find(3, " + how + ")", due[0][how]);
            run.due("c", "find(3, " + how + ")", due[1][how]);
            run.due(HIGHEST, "find(3, " + how + ")", due[1][how]);
        }
        String[][] turned = {{"1", "1", none, none}, {none, none, "2", "2"}};
        for (int how = 0; how < 4; how++) {
            run.due("", "find(4, " + how + ")", turned[0][how]);
            run.due(HIGHEST, "find(4, " + how + ")", turned[1][how]);
        }
    }

    private static void longestOfNothing() {
        Run run = new Run("6 the longest one with which t begins");
        run.due("", "find(0, 6)", Run.NO_ELEMENT);
        run.due("\0", "put(0, 1)", -1);
        run.due("", "find(0, 6)", Run.NO_ELEMENT);
        run.due("", "put(0, 2)", -1);
        run.due("", "find(0, 6)", 2);
        run.foundIs("");
        run.due("a", "find(0, 6)", 2);
        run.due("\0", "find(0, 6)", 1);
        run.foundIs("\0");
    }

    private static void longestOfEight() {
        Run run = new Run("6 the longest one with which t begins");
        String eight = "abcdefgh";
        run.due(eight, "find(0, 6)", Run.NO_ELEMENT);
        for (int length = 0; length <= 8; length++) {
            run.due(eight.substring(0, length), "put(0, " + length + ")", -1);
            run.due(eight, "find(0, 6)", length);
        }
        run.foundIs(eight);
        run.due("abcdefgi", "find(0, 6)", 7);
        run.due("abcdefg", "find(0, 6)", 7);
        run.due("b", "find(0, 6)", 0);
    }

    private static void longestInAView() {
        Run run = new Run("6 the longest one with which t begins");
        run.putAll(0, "", "a", "ab", "abc");
        run.due("ab", "view(0, 1)", 3);
        run.due("ab", "view(0, 2)", 4);
        run.due("view(0, 3)", 5);
        run.due("view(3, 3)", 6);
        run.due("abcd", "find(3, 6)", 1);
        run.due("abcd", "find(4, 6)", 3);
        run.due("abcd", "find(5, 6)", 3);
        run.due("abcd", "find(6, 6)", 1);
        run.due("a", "find(4, 6)", Run.NO_ELEMENT);
        run.due("ac", "find(5, 6)", 1);
    }

    private static void usedWhereItDoesNotMatter() {
        Run run = new Run("by the tape's text t (USED, also for 4 and 5, where it does not matter)");
        run.putAll(0, "b", "d");
        for (String text : new String[] {"", "a", "c", HIGHEST}) {
            run.due(text, "find(0, 4)", 0);
            run.tapeIs("");
            run.due(text, "find(0, 5)", 1);
            run.tapeIs("");
            run.due(text, "find(1, 4)", Run.NO_ELEMENT);
            run.tapeIs("");
        }
    }

    private static void noneInAnEmptyMap() {
        Run run = new Run("NoSuchElementException: there is none.");
        for (int how = 0; how <= 6; how++) {
            run.due("", "find(0, " + how + ")", Run.NO_ELEMENT);
            run.due("abcdefgh", "find(1, " + how + ")", Run.NO_ELEMENT);
            run.tapeIs("");
        }
    }

    private static void noneInAnEmptyView() {
        Run run = new Run("NoSuchElementException: there is none.");
        run.putAll(0, "", "a", "c");
        run.due("b", "view(0, 0)", 3);
        run.due("view(3, 3)", 4);
        for (int how = 0; how <= 6; how++) {
            run.due("b", "find(3, " + how + ")", Run.NO_ELEMENT);
            run.due("c", "find(4, " + how + ")", Run.NO_ELEMENT);
        }
    }

    private static void allOfAFullMap() {
        Run run = new Run("The value of a key of a view, by the tape's text t");
        run.fill(0);
        run.due("find(0, 4)", 0);
        run.foundIs("\u03e8");
        run.due("find(0, 5)", 63);
        run.foundIs("\u0427");
        for (int i = 0; i < 64; i += 3) {
            String key = String.valueOf((char) (1000 + i));
            run.due(key, "find(0, 0)", i);
            run.due(key, "find(0, 1)", i == 0 ? Run.NO_ELEMENT : String.valueOf(i - 1));
            run.due(key, "find(0, 2)", i);
            run.due(key, "find(0, 3)", i == 63 ? Run.NO_ELEMENT : String.valueOf(i + 1));
            run.due(key, "find(0, 6)", i);
        }
    }

    /** A call that has the word VIEW for the view's number leaves the tape and FOUND. */
    private static void noSuchView(String call) {
        Run run = new Run("IndexOutOfBoundsException: no such view");
        run.putAll(0, "p", "q");
        run.due("find(0, 5)", 1);
        run.tape("p");
        for (String view : new String[] {"-1", "3", "11", "12"}) {
            run.due(call.replace("VIEW", view), Run.OUT_OF_BOUNDS);
        }
        for (String view : Run.FAR) {
            run.due(call.replace("VIEW", view), Run.OUT_OF_BOUNDS);
        }
        run.foundIs("q");
        run.tapeIs("p");
        run.keysAre(0, "p", "q");
    }

    private static void noSuchViewToFind() {
        for (int how = -1; how <= 7; how++) {
            noSuchView("find(VIEW, " + how + ")");
        }
    }

    private static void noSuchHow() {
        Run run = new Run("IndexOutOfBoundsException: no such view, no such how");
        run.putAll(0, "p", "q");
        run.due("find(0, 5)", 1);
        run.tape("p");
        run.due("find(0, -1)", Run.OUT_OF_BOUNDS);
        run.due("find(0, 7)", Run.OUT_OF_BOUNDS);
        for (String how : Run.FAR) {
            run.due("find(0, " + how + ")", Run.OUT_OF_BOUNDS);
        }
        run.foundIs("q");
        run.tapeIs("p");
    }

    private static void noSuchHowBeforeNone() {
        Run run = new Run("Of several exceptions the first one told is thrown");
        run.tape("p");
        run.due("find(0, -1)", Run.OUT_OF_BOUNDS);
        run.due("find(0, 7)", Run.OUT_OF_BOUNDS);
        run.due("find(3, 4)", Run.OUT_OF_BOUNDS);
        run.tapeIs("p");
    }

    private static void atTheEnds() {
        Run run = new Run("The value of key k of a view, from 0 on.");
        run.putAll(0, "a", "b", "c", "d");
        run.due("b", "view(0, 2)", 3);
        run.due("d", "view(3, 1)", 4);
        run.due("view(4, 3)", 5);
        run.due("at(0, 0)", 0);
        run.due("at(0, 3)", 3);
        run.due("at(4, 0)", 1);
        run.due("at(4, 1)", 2);
        run.due("at(5, 0)", 2);
        run.due("at(5, 1)", 1);
        run.foundIs("b");
    }

    private static void atNone() {
        Run run = new Run("NoSuchElementException: it has none such.");
        run.due("at(0, 0)", Run.NO_ELEMENT);
        run.putAll(0, "a", "b", "c");
        run.due("b", "view(0, 0)", 3);
        run.due("x", "view(0, 0)", 4);
        run.tape("q");
        run.due("at(0, -1)", Run.NO_ELEMENT);
        run.due("at(0, 3)", Run.NO_ELEMENT);
        run.due("at(0, 64)", Run.NO_ELEMENT);
        run.due("at(3, -1)", Run.NO_ELEMENT);
        run.due("at(3, 1)", Run.NO_ELEMENT);
        run.due("at(4, 0)", Run.NO_ELEMENT);
        run.due("at(4, -1)", Run.NO_ELEMENT);
        for (String k : Run.FAR) {
            run.due("at(0, " + k + ")", Run.NO_ELEMENT);
            run.due("at(3, " + k + ")", Run.NO_ELEMENT);
        }
        run.foundIs("");
        run.tapeIs("q");
    }

    private static void atOfAFullMap() {
        Run run = new Run("The value of key k of a view, from 0 on.");
        run.fill(0);
        run.due("view(0, 3)", 3);
        for (int k = 0; k < 64; k++) {
            run.due("at(0, " + k + ")", k);
            run.due("at(3, " + k + ")", 63 - k);
        }
        run.due("at(0, 64)", Run.NO_ELEMENT);
        run.due("at(3, 64)", Run.NO_ELEMENT);
    }

    private static void noSuchViewAt() {
        for (String k : new String[] {"0", "-1", "64", "2147483647"}) {
            noSuchView("at(VIEW, " + k + ")");
        }
    }

    private static void pollToTheEnd() {
        Run run = new Run("The first key of a view is removed, or the last one: its value.");
        run.putAll(0, "a", "b", "c", "d");
        run.due("b", "view(0, 2)", 3);
        run.due("view(3, 3)", 4);
        run.due("poll(3, false)", 1);
        run.foundIs("b");
        run.due("poll(4, false)", 3);
        run.foundIs("d");
        run.keysAre(0, "a", "c");
        run.due("poll(4, true)", 2);
        run.foundIs("c");
        run.due("poll(0, true)", 0);
        run.foundIs("a");
        run.keysAre(0);
    }

    private static void pollNone() {
        Run run = new Run("NoSuchElementException: it has none.");
        run.putAll(0, "a", "c");
        run.due("b", "view(0, 0)", 3);
        run.due("at(0, 1)", 1);
        run.tape("q");
        for (String last : new String[] {"true", "false"}) {
            run.due("poll(1, " + last + ")", Run.NO_ELEMENT);
            run.due("poll(3, " + last + ")", Run.NO_ELEMENT);
        }
        run.foundIs("c");
        run.tapeIs("q");
        run.keysAre(0, "a", "c");
    }

    private static void pollAFullMap() {
        Run run = new Run("The first key of a view is removed, or the last one: its value.");
        run.fill(0);
        for (int i = 0; i < 32; i++) {
            run.due("poll(0, false)", i);
            run.due("poll(0, true)", 63 - i);
            run.due("size(0)", 62 - 2 * i);
        }
        run.due("poll(0, false)", Run.NO_ELEMENT);
        run.due("poll(0, true)", Run.NO_ELEMENT);
    }

    private static void noSuchViewToPoll() {
        noSuchView("poll(VIEW, true)");
        noSuchView("poll(VIEW, false)");
    }

    private static void foundCharacters() {
        Run run = new Run("Character i of FOUND; for i = -1 how many it has; NONE if there is none.");
        run.putAll(0, "\0\uffffz");
        run.due("at(0, 0)", 0);
        run.due("found(-1)", 3);
        run.due("found(0)", 0);
        run.due("found(1)", 65535);
        run.due("found(2)", 'z');
        run.due("found(3)", -1);
        run.due("found(8)", -1);
        run.due("found(-2)", -1);
        for (String i : Run.FAR) {
            run.due("found(" + i + ")", -1);
        }
    }

    private static void foundOfEight() {
        Run run = new Run("Character i of FOUND; for i = -1 how many it has; NONE if there is none.");
        run.putAll(0, "abcdefgh", "x");
        run.due("at(0, 0)", 0);
        run.due("found(-1)", 8);
        run.due("found(7)", 'h');
        run.due("found(8)", -1);
        run.due("at(0, 1)", 1);
        run.due("found(-1)", 1);
        run.due("found(1)", -1);
        run.due("found(7)", -1);
    }

    private static void foundOfNone() {
        Run run = new Run("FOUND is a key, empty at first");
        for (int i = 0; i <= 8; i++) {
            run.due("found(" + i + ")", -1);
        }
        run.due("found(-1)", 0);
        run.due("found(-2)", -1);
        run.putAll(0, "ab", "");
        run.due("at(0, 1)", 0);
        run.due("at(0, 0)", 1);
        run.due("found(-1)", 0);
        run.due("found(0)", -1);
    }

    private static void othersLeaveFound() {
        Run run = new Run("(others leave it)");
        run.putAll(0, "f", "g", "h", "k");
        run.due("g", "find(0, 0)", 1);
        run.due("k", "remove(0)", 3);
        run.foundIs("g");
        run.due("g", "remove(0)", 1);
        run.foundIs("g");
        run.due("i", "put(0, 4)", -1);
        run.due("f", "get(0)", 0);
        run.due("size(0)", 3);
        run.due("view(0, 3)", 3);
        run.due("iterate(3)", true);
        run.due("f", "match(0, 0)", 1);
        run.due("f", "edges(5)", 1);
        run.due("freeze(0)", 2);
        run.due("h", "automaton(4)", 1);
        run.due("zz", "insert(0)", 2);
        run.due("z", "locate(0)", 2);
        run.due("delete(0, 1)", 1);
        run.due("undo()", 2);
        run.foundIs("g");
        run.due("next(3)", 4);
        run.due("at(0, 0)", 0);
        run.due("drop(3)", 4);
        run.foundIs("f");
    }

    private static void whatThrewLeavesFound() {
        Run run = new Run("the latest find(), at(), poll() or next() that did not throw");
        run.putAll(0, "f", "g");
        run.due("iterate(0)", true);
        run.due("at(0, 1)", 1);
        run.due("g", "find(0, 3)", Run.NO_ELEMENT);
        run.due("find(0, 7)", Run.OUT_OF_BOUNDS);
        run.due("find(3, 4)", Run.OUT_OF_BOUNDS);
        run.due("at(0, 2)", Run.NO_ELEMENT);
        run.due("at(3, 0)", Run.OUT_OF_BOUNDS);
        run.due("poll(1, false)", Run.NO_ELEMENT);
        run.due("poll(-1, false)", Run.OUT_OF_BOUNDS);
        run.due("next(1)", Run.BAD_STATE);
        run.due("next(3)", Run.OUT_OF_BOUNDS);
        run.due("iterate(1)", true);
        run.due("next(1)", Run.NO_ELEMENT);
        run.foundIs("g");
        run.due("next(0)", 0);
        run.putAll(0, "h");
        run.due("at(0, 2)", 0);
        run.due("next(0)", Run.BAD_STATE);
        run.foundIs("h");
    }

    private static void foundOfEachTeller() {
        Run run = new Run("it becomes that of the entry told by the latest find(), at(), poll() or"
                + " next()");
        run.putAll(0, "f", "g", "h", "i");
        run.due("f", "find(0, 0)", 0);
        run.foundIs("f");
        run.due("at(0, 1)", 1);
        run.foundIs("g");
        run.due("poll(0, true)", 3);
        run.foundIs("i");
        run.due("poll(0, false)", 0);
        run.foundIs("f");
        run.due("iterate(0)", true);
        run.due("next(0)", 1);
        run.foundIs("g");
        run.due("next(0)", 2);
        run.foundIs("h");
    }
}
