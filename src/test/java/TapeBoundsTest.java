/**
 * The boundary cases that the document names for the tape, the keys, their ORDER and the number of
 * calls, and those of promises 1 and 2. Each run has the document's words as its title.
 */
public final class TapeBoundsTest {
    private static final String EIGHT = "abcdefgh";

    public static void main(String[] args) {
        lastOfAllCalls();
        changesBeyondAByte();
        editsAndUndosToTheLastCall();
        tapeOfEight();
        outermostCharacters();
        lowestCharacters();
        otherNumbers();
        otherNumbersLeaveTheTape();
        moreThanEight();
        keyOfNoCharacters();
        keyOfEightCharacters();
        firstCharactersThatDiffer();
        beginningIsBefore();
        newMapsAndViews();
        newFound();
        newIterators();
        newAutomatonAndEdges();
        newText();
        newTape();
        Run.finish();
    }

    private static void lastOfAllCalls() {
        Run run = new Run("An object is used for at most 512 calls");
        run.due("a", "put(0, 0)", -1);
        for (int i = 1; i < 256; i++) {
            run.due("a", "put(0, " + i + ")", i - 1);
        }
    }

    /** Keys come and go as often as a run allows: an iterator notices 256 changes, too. */
    private static void changesBeyondAByte() {
        for (int pairs : new int[] {64, 128, 254}) {
            Run run = new Run("An object is used for at most 512 calls");
            run.due("iterate(0)", true);
            for (int i = 0; i < pairs; i++) {
                run.due("put(0, " + i + ")", -1);
                run.due("remove(0)", i);
            }
            run.due("next(0)", Run.BAD_STATE);
            run.due("iterate(0)", true);
            run.due("next(0)", Run.NO_ELEMENT);
        }
    }

    private static void editsAndUndosToTheLastCall() {
        Run run = new Run("An object is used for at most 512 calls");
        for (int i = 0; i < 170; i++) {
            run.due("ab", "insert(0)", 2);
            run.due("undo()", 0);
        }
        run.due("undo()", -1);
        run.due("letter(-1)", 0);
    }

    private static void tapeOfEight() {
        Run run = new Run("THE TAPE has at most 8 characters");
        for (int typed = 5; typed <= 8; typed++) {
            int free = 8 - typed;
            run.tape(EIGHT.substring(0, typed));
            for (int n = free + 1; n <= 4; n++) {
                run.due("type(120, " + n + ")", false);
            }
            run.tape(EIGHT.substring(typed));
            run.due("type(120, 1)", false);
            run.tapeIs(EIGHT);
        }
    }

    private static void outermostCharacters() {
        Run run = new Run("THE TAPE has at most 8 characters (0 .. 65535).");
        run.due("type(0, 1)", true);
        run.due("type(65535, 1)", true);
        run.due("type(32767, 1)", true);
        run.due("type(32768, 1)", true);
        run.due("type(281474976645120, 3)", true);
        run.tapeIs("\0\uffff\u7fff\u8000\uffff\uffff\0");
    }

    private static void lowestCharacters() {
        Run run = new Run("The n (1 .. 4) lowest characters of 16 bits, the highest of them first,"
                + " go to the tape");
        String[] due = {"4", "34", "234", "1234"};
        for (int n = 1; n <= 4; n++) {
            run.due("type(" + 0x0031003200330034L + ", " + n + ")", true);
            run.tapeIs(due[n - 1]);
        }
        run.due("type(65536, 1)", true);
        run.due("type(-1, 1)", true);
        run.due("type(-9223372036854775808, 3)", true);
        run.tapeIs("\0\uffff\0\0\0");
        run.due("type(-9223372036854775808, 4)", true);
        run.due("type(9223372036854775807, 4)", true);
        run.tapeIs("\u8000\0\0\0\u7fff\uffff\uffff\uffff");
    }

    private static void otherNumbers() {
        Run run = new Run("false, changing nothing, for another n");
        run.due("type(97, 0)", false);
        run.due("type(97, -1)", false);
        run.due("type(97, 5)", false);
        run.due("type(97, 8)", false);
        for (String n : Run.FAR) {
            run.due("type(97, " + n + ")", false);
        }
        run.tapeIs("");
    }

    private static void otherNumbersLeaveTheTape() {
        Run run = new Run("false, changing nothing, for another n");
        for (String text : new String[] {"x", "xyzw", EIGHT}) {
            run.tape(text);
            for (String n : new String[] {"0", "-1", "-8", "5", "-2147483648", "2147483647"}) {
                run.due("type(97, " + n + ")", false);
            }
            run.tapeIs(text);
        }
    }

    private static void moreThanEight() {
        Run run = new Run("or if it would have more than 8");
        for (int n = 1; n <= 4; n++) {
            String typed = EIGHT.substring(0, 9 - n);
            run.tape(typed);
            run.due("type(-1, " + n + ")", false);
            run.tapeIs(typed);
        }
    }

    private static void keyOfNoCharacters() {
        Run run = new Run("A KEY is a text of 0 to 8 characters.");
        run.due("put(0, 5)", -1);
        run.due("get(0)", 5);
        run.due("put(0, 6)", 5);
        run.due("at(0, 0)", 6);
        run.foundIs("");
        run.due("x", "find(0, 6)", 6);
        run.due("find(0, 0)", 6);
        run.due("iterate(0)", true);
        run.due("next(0)", 6);
        run.due("drop(0)", 6);
        run.due("get(0)", -1);
        run.due("put(0, 7)", -1);
        run.due("poll(0, true)", 7);
        run.due("put(0, 8)", -1);
        run.due("remove(0)", 8);
        run.due("size(0)", 0);
    }

    private static void keyOfEightCharacters() {
        Run run = new Run("A KEY is a text of 0 to 8 characters.");
        run.due("abcdefgh", "put(0, 5)", -1);
        run.due("abcdefgi", "put(0, 6)", -1);
        run.due("abcdefg", "put(0, 7)", -1);
        run.keysAre(0, "abcdefg", "abcdefgh", "abcdefgi");
        run.due("abcdefgh", "get(0)", 5);
        run.due("abcdefgi", "get(0)", 6);
        run.due("abcdefgi", "find(0, 6)", 6);
        run.due("abcdefgh", "find(0, 3)", 6);
        run.due("abcdefgh", "remove(0)", 5);
        run.due("abcdefgh", "get(0)", -1);
        run.due("poll(0, true)", 6);
        run.foundIs("abcdefgi");
        run.keysAre(0, "abcdefg");
    }

    private static void firstCharactersThatDiffer() {
        Run run = new Run("ORDER: by the first characters that differ");
        run.putAll(0, "\uffff", "\u8000", "\u7fff", "\0", "\u0100", "\u00ff",
                "aaaaaaab", "aaaaaaaa", "aaaaaaa\uffff", "ab\0", "aa\uffff");
        run.keysAre(0, "\0", "aaaaaaaa", "aaaaaaab", "aaaaaaa\uffff", "aa\uffff", "ab\0",
                "\u00ff", "\u0100", "\u7fff", "\u8000", "\uffff");
    }

    private static void beginningIsBefore() {
        Run run = new Run("what another one begins with is before it");
        run.putAll(0, "\0\0", "\0\0\0\0\0\0\0\0", "", "\0", "\0\0\0\0\0\0\0", "b", "a\uffff", "a");
        run.keysAre(0, "", "\0", "\0\0", "\0\0\0\0\0\0\0", "\0\0\0\0\0\0\0\0", "a", "a\uffff", "b");
    }

    private static void newMapsAndViews() {
        Run run = new Run("makes an object in the state that the terms give");
        for (int view = 0; view < 3; view++) {
            run.due("size(" + view + ")", 0);
            run.due("get(" + view + ")", -1);
            run.due("find(" + view + ", 4)", Run.NO_ELEMENT);
            run.due("at(" + view + ", 0)", Run.NO_ELEMENT);
            run.due("poll(" + view + ", false)", Run.NO_ELEMENT);
        }
        for (int view = 3; view <= 12; view++) {
            run.due("size(" + view + ")", -1);
        }
        run.due("view(2, 3)", 3);
    }

    private static void newFound() {
        Run run = new Run("FOUND is a key, empty at first");
        run.due("found(-1)", 0);
        run.due("found(0)", -1);
        run.due("found(7)", -1);
    }

    private static void newIterators() {
        Run run = new Run("each view has one, which has not begun at first");
        for (int view = 0; view < 3; view++) {
            run.due("next(" + view + ")", Run.BAD_STATE);
            run.due("drop(" + view + ")", Run.BAD_STATE);
        }
    }

    private static void newAutomatonAndEdges() {
        Run run = new Run("that of no keys at first");
        for (int what = 0; what < 3; what++) {
            run.due("automaton(" + what + ")", 0);
        }
        run.due("automaton(3)", -1);
        run.due("automaton(4)", 0);
        for (int what = 0; what < 5; what++) {
            run.due("edges(" + what + ")", 0);
        }
        run.due("edges(5)", -1);
    }

    private static void newText() {
        Run run = new Run("THE TEXT has at most 120 characters, none at first.");
        run.due("letter(-1)", 0);
        run.due("letter(-2)", 0);
        run.due("letter(0)", -1);
        run.due("undo()", -1);
        run.due("suffix(0, 0)", -1);
        run.due("locate(0)", 0);
        run.due("locate(1)", -1);
    }

    private static void newTape() {
        Run run = new Run("makes an object in the state that the terms give");
        run.due("type(97, 4)", true);
        run.due("type(97, 4)", true);
        run.tapeIs("\0\0\0a\0\0\0a");
    }
}
