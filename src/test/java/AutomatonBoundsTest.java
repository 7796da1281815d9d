/**
 * The boundary cases that the document names for THE AUTOMATON and promises 17 and 18. Each run has
 * the document's words as its title.
 */
public final class AutomatonBoundsTest {
    public static void main(String[] args) {
        noneAtFirst();
        ofAnEmptyMap();
        ofAnEmptyView();
        ofTheEmptyKey();
        ofTheEmptyKeyAndAnother();
        ofOneKey();
        ofOneKeyOfEight();
        sameTextsLeadToKeys();
        sameTextsButFinal();
        asManyTextsButOthers();
        ofAFullMap();
        ofAFullMapOfEight();
        ofAFullMapThatIsFolded();
        asTheyAreNow();
        asTheyAreNowOfNone();
        ofViewsTurnedRound();
        noSuchView();
        stepsForEachCharacter();
        finalOnes();
        goesNowhere();
        goesAll();
        goesNoFurther();
        withoutAStart();
        endsInAFinalOne();
        endsInNone();
        emptyText();
        tapeIsUsed();
        tapeStays();
        anotherWhat();
        Run.finish();
    }

    private static void counts(Run run, int states, int steps, int finals) {
        run.due("automaton(0)", states);
        run.due("automaton(1)", steps);
        run.due("automaton(2)", finals);
    }

    private static void noneAtFirst() {
        Run run = new Run("Of the latest AUTOMATON (that of no keys at first)");
        run.putAll(0, "a");
        counts(run, 0, 0, 0);
        run.due("a", "automaton(3)", -1);
        run.due("a", "automaton(4)", 0);
        run.due("", "automaton(3)", -1);
        run.due("", "automaton(4)", 0);
    }

    private static void ofAnEmptyMap() {
        Run run = new Run("if the set is empty there is none");
        run.putAll(0, "a");
        run.due("freeze(0)", 2);
        run.due("freeze(1)", 0);
        counts(run, 0, 0, 0);
        run.due("a", "automaton(3)", -1);
        run.due("", "automaton(4)", 0);
    }

    private static void ofAnEmptyView() {
        Run run = new Run("if the set is empty there is none");
        run.putAll(0, "", "a");
        run.due("b", "view(0, 0)", 3);
        run.due("freeze(0)", 2);
        run.due("freeze(3)", 0);
        counts(run, 0, 0, 0);
        run.due("", "automaton(3)", -1);
        run.due("", "automaton(4)", 0);
    }

    private static void ofTheEmptyKey() {
        Run run = new Run("its STATES are the texts with which keys of the set begin");
        run.putAll(0, "");
        run.due("freeze(0)", 1);
        counts(run, 1, 0, 1);
        run.due("", "automaton(3)", 0);
        run.due("", "automaton(4)", 1);
        run.due("a", "automaton(3)", 0);
        run.due("a", "automaton(4)", 0);
    }

    private static void ofTheEmptyKeyAndAnother() {
        Run run = new Run("its STATES are the texts with which keys of the set begin");
        run.putAll(0, "", "\0");
        run.due("freeze(0)", 2);
        counts(run, 2, 1, 2);
        run.putAll(0, "\0\0");
        run.due("freeze(0)", 3);
        counts(run, 3, 2, 3);
        run.due("\0", "remove(0)", 1);
        run.due("freeze(0)", 3);
        counts(run, 3, 2, 2);
    }

    private static void ofOneKey() {
        Run run = new Run("how many states it has");
        run.putAll(0, "a");
        run.due("freeze(0)", 2);
        counts(run, 2, 1, 1);
        run.putAll(0, "aa");
        run.due("freeze(0)", 3);
        counts(run, 3, 2, 2);
    }

    private static void ofOneKeyOfEight() {
        Run run = new Run("how many states it has");
        run.putAll(0, "aaaaaaaa");
        run.due("freeze(0)", 9);
        counts(run, 9, 8, 1);
        run.due("aaaaaaaa", "automaton(3)", 8);
        run.due("aaaaaaaa", "automaton(4)", 1);
        run.due("aaaaaaa", "automaton(3)", 7);
        run.due("aaaaaaa", "automaton(4)", 0);
    }

    private static void sameTextsLeadToKeys() {
        Run run = new Run("those being one state behind which the same texts lead to keys");
        run.putAll(0, "ax", "bx", "ccx", "dcx");
        run.due("freeze(0)", 4);
        counts(run, 4, 6, 1);
        run.putAll(0, "x");
        run.due("freeze(0)", 4);
        counts(run, 4, 7, 1);
    }

    private static void sameTextsButFinal() {
        Run run = new Run("those being one state behind which the same texts lead to keys");
        run.putAll(0, "ax", "bx", "b");
        run.due("freeze(0)", 4);
        counts(run, 4, 4, 2);
        run.putAll(0, "a");
        run.due("freeze(0)", 3);
        counts(run, 3, 3, 2);
    }

    private static void asManyTextsButOthers() {
        Run run = new Run("those being one state behind which the same texts lead to keys");
        run.putAll(0, "a", "axy", "bx", "bxy");
        run.due("freeze(0)", 6);
        counts(run, 6, 6, 3);
        run = new Run("those being one state behind which the same texts lead to keys");
        run.putAll(0, "a\0", "a\0\0", "b\0\0", "b");
        run.due("freeze(0)", 6);
        counts(run, 6, 6, 3);
    }

    private static void ofAFullMap() {
        Run run = new Run("how many states it has");
        run.fill(2);
        run.due("freeze(2)", 2);
        counts(run, 2, 64, 1);
        run.due("\u03e8", "automaton(4)", 1);
        run.due("\u0427", "automaton(4)", 1);
        run.due("\u0428", "automaton(4)", 0);
        run.due("\u03e7", "automaton(3)", 0);
    }

    private static void ofAFullMapOfEight() {
        Run run = new Run("how many states it has");
        for (int i = 0; i < 64; i++) {
            StringBuilder key = new StringBuilder();
            for (int j = 0; j < 8; j++) {
                key.append((char) (65535 - 64 * j - i));
            }
            run.due(key.toString(), "put(1, 0)", -1);
        }
        run.due("freeze(1)", 450);
        counts(run, 450, 512, 1);
    }

    private static void ofAFullMapThatIsFolded() {
        Run run = new Run("those being one state behind which the same texts lead to keys");
        for (int i = 0; i < 64; i++) {
            StringBuilder key = new StringBuilder();
            for (int j = 0; j < 6; j++) {
                key.append((i >> j & 1) == 0 ? 'a' : 'b');
            }
            run.due(key.toString(), "put(1, 0)", -1);
        }
        run.due("freeze(1)", 7);
        counts(run, 7, 12, 1);
        run.due("aaaaaa", "remove(1)", 0);
        run.due("freeze(1)", 12);
        counts(run, 12, 21, 1);
    }

    private static void asTheyAreNow() {
        Run run = new Run("The AUTOMATON becomes that of a view's keys as they are now");
        run.putAll(0, "a", "b");
        run.due("freeze(0)", 2);
        run.due("cd", "put(0, 1)", -1);
        run.due("a", "remove(0)", 0);
        counts(run, 2, 2, 1);
        run.due("a", "automaton(4)", 1);
        run.due("cd", "automaton(4)", 0);
        run.due("freeze(0)", 3);
        run.due("a", "automaton(4)", 0);
        run.due("cd", "automaton(4)", 1);
    }

    private static void asTheyAreNowOfNone() {
        Run run = new Run("The AUTOMATON becomes that of a view's keys as they are now");
        run.due("freeze(0)", 0);
        run.putAll(0, "a");
        counts(run, 0, 0, 0);
        run.due("a", "automaton(3)", -1);
        run.due("freeze(0)", 2);
        run.due("poll(0, true)", 0);
        counts(run, 2, 1, 1);
        run.due("a", "automaton(4)", 1);
    }

    private static void ofViewsTurnedRound() {
        Run run = new Run("The AUTOMATON becomes that of a view's keys as they are now");
        run.putAll(0, "a", "ab", "b", "bc", "bd");
        run.due("view(0, 3)", 3);
        run.due("b", "view(3, 0)", 4);
        run.due("freeze(0)", 4);
        counts(run, 4, 5, 3);
        run.due("freeze(3)", 4);
        counts(run, 4, 5, 3);
        run.due("freeze(4)", 3);
        counts(run, 3, 3, 2);
        run.due("a", "automaton(4)", 0);
        run.due("bd", "automaton(4)", 1);
    }

    private static void noSuchView() {
        Run run = new Run("IndexOutOfBoundsException: no such view.");
        run.putAll(0, "a");
        run.due("freeze(0)", 2);
        run.tape("a");
        for (String view : new String[] {"-1", "3", "11", "12"}) {
            run.due("freeze(" + view + ")", Run.OUT_OF_BOUNDS);
        }
        for (String view : Run.FAR) {
            run.due("freeze(" + view + ")", Run.OUT_OF_BOUNDS);
        }
        counts(run, 2, 1, 1);
        run.tapeIs("a");
    }

    private static void stepsForEachCharacter() {
        Run run = new Run("STEPS: each state has one for each character that can follow.");
        run.putAll(0, "\0", "\u0100", "\uffff", "\u00ff");
        run.due("freeze(0)", 2);
        counts(run, 2, 4, 1);
        run.putAll(0, "\0\0", "\0\uffff");
        run.due("freeze(0)", 3);
        counts(run, 3, 6, 2);
    }

    private static void finalOnes() {
        Run run = new Run("Those of keys are FINAL.");
        run.putAll(0, "ab", "cb");
        run.due("freeze(0)", 3);
        counts(run, 3, 3, 1);
        run.putAll(0, "");
        run.due("freeze(0)", 3);
        counts(run, 3, 3, 2);
        run.putAll(0, "a");
        run.due("freeze(0)", 4);
        counts(run, 4, 4, 3);
        run.putAll(0, "c");
        run.due("freeze(0)", 3);
        counts(run, 3, 3, 3);
    }

    private static void goesNowhere() {
        Run run = new Run("3: how many characters of the tape's text (USED) it can go from its start");
        run.putAll(0, "abc", "b");
        run.due("freeze(0)", 4);
        run.due("", "automaton(3)", 0);
        run.due("c", "automaton(3)", 0);
        run.due("\0abc", "automaton(3)", 0);
        run.due("caaaaaaa", "automaton(3)", 0);
    }

    private static void goesAll() {
        Run run = new Run("3: how many characters of the tape's text (USED) it can go from its start");
        run.putAll(0, "abcdefgh", "b");
        run.due("freeze(0)", 9);
        for (int length = 0; length <= 8; length++) {
            run.due("abcdefgh".substring(0, length), "automaton(3)", length);
        }
    }

    private static void goesNoFurther() {
        Run run = new Run("3: how many characters of the tape's text (USED) it can go from its start");
        run.putAll(0, "abcdefgh", "b", "bx");
        run.due("freeze(0)", 10);
        run.due("abcdefgi", "automaton(3)", 7);
        run.due("b", "automaton(3)", 1);
        run.due("bxx", "automaton(3)", 2);
        run.due("ba", "automaton(3)", 1);
        run.due("acdefghi", "automaton(3)", 1);
    }

    private static void withoutAStart() {
        Run run = new Run("(NONE without one)");
        run.due("", "automaton(3)", -1);
        run.due("abcdefgh", "automaton(3)", -1);
        run.putAll(0, "");
        run.due("freeze(0)", 1);
        run.due("abcdefgh", "automaton(3)", 0);
        run.due("freeze(2)", 0);
        run.due("abcdefgh", "automaton(3)", -1);
        run.due("", "automaton(3)", -1);
    }

    private static void endsInAFinalOne() {
        Run run = new Run("4: 1 if it goes all of it (USED) and comes to a FINAL one, else 0.");
        run.putAll(0, "", "ab", "abcdefgh");
        run.due("freeze(0)", 9);
        run.due("", "automaton(4)", 1);
        run.due("ab", "automaton(4)", 1);
        run.due("abcdefgh", "automaton(4)", 1);
    }

    private static void endsInNone() {
        Run run = new Run("4: 1 if it goes all of it (USED) and comes to a FINAL one, else 0.");
        run.putAll(0, "ab", "abcdefgh");
        run.due("freeze(0)", 9);
        run.due("", "automaton(4)", 0);
        run.due("a", "automaton(4)", 0);
        run.due("abc", "automaton(4)", 0);
        run.due("abcdefg", "automaton(4)", 0);
        run.due("abcdefgi", "automaton(4)", 0);
        run.due("abx", "automaton(4)", 0);
        run.due("b", "automaton(4)", 0);
    }

    private static void emptyText() {
        Run run = new Run("4: 1 if it goes all of it (USED) and comes to a FINAL one, else 0.");
        run.due("", "automaton(4)", 0);
        run.putAll(0, "a");
        run.due("freeze(0)", 2);
        run.due("", "automaton(4)", 0);
        run.putAll(0, "");
        run.due("freeze(0)", 2);
        run.due("", "automaton(4)", 1);
    }

    private static void tapeIsUsed() {
        Run run = new Run("3: how many characters of the tape's text (USED) it can go from its start");
        run.putAll(0, "a");
        for (int frozen = 0; frozen < 2; frozen++) {
            run.due("abcdefgh", "automaton(3)", frozen == 0 ? -1 : 1);
            run.tapeIs("");
            run.due("abcdefgh", "automaton(4)", 0);
            run.tapeIs("");
            run.due("a", "automaton(4)", frozen);
            run.tapeIs("");
            run.due("freeze(0)", 2);
        }
    }

    /** Promise 18 tells of what 3 and what 4 alone that they use the tape. */
    private static void tapeStays() {
        Run run = new Run("A call that is told to USE it takes it all, and leaves it empty");
        run.putAll(0, "a");
        run.tape("abcdefgh");
        run.due("freeze(0)", 2);
        counts(run, 2, 1, 1);
        run.due("automaton(-1)", -1);
        run.due("automaton(5)", -1);
        run.tapeIs("abcdefgh");
    }

    private static void anotherWhat() {
        Run run = new Run("NONE for another what.");
        run.due("automaton(-1)", -1);
        run.due("automaton(5)", -1);
        run.putAll(0, "a", "b");
        run.due("freeze(0)", 2);
        run.due("automaton(-1)", -1);
        run.due("automaton(5)", -1);
        for (String what : Run.FAR) {
            run.due("automaton(" + what + ")", -1);
        }
        counts(run, 2, 2, 1);
    }
}
