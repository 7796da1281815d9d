/** Promises 17 and 18: freeze, automaton. */
public final class AutomatonTest {
    public static void main(String[] args) {
        sameEnds();
        sameEndsAtOtherLengths();
        smallSets();
        views();
        staysAsItWas();
        goes();
        largeSets();
        tape();
        wrongInputs();
        Run.finish();
    }

    private static void counts(Run run, int view, int states, int steps, int finals) {
        run.due("freeze(" + view + ")", states);
        run.due("automaton(0)", states);
        run.due("automaton(1)", steps);
        run.due("automaton(2)", finals);
    }

    private static void sameEnds() {
        Run run = new Run("texts with the same ends are one state");
        run.putAll(0, "tap", "taps", "top", "tops");
        counts(run, 0, 5, 5, 2);
        run.putAll(0, "tapx");
        counts(run, 0, 7, 8, 3);
    }

    private static void sameEndsAtOtherLengths() {
        Run run = new Run("texts of other lengths are one state, too");
        run.putAll(0, "a", "ba");
        counts(run, 0, 3, 3, 1);
        run.putAll(0, "cba");
        counts(run, 0, 4, 5, 1);
        run = new Run("a FINAL state is none that is not FINAL");
        run.putAll(0, "ax", "bx", "b");
        counts(run, 0, 4, 4, 2);
        run = new Run("as many ends, and as long ones, but not the same");
        run.putAll(0, "a", "axy", "bx", "bxy");
        counts(run, 0, 6, 6, 3);
    }

    private static void smallSets() {
        Run run = new Run("small sets");
        counts(run, 0, 0, 0, 0);
        run.putAll(0, "");
        counts(run, 0, 1, 0, 1);
        run.putAll(0, "\0");
        counts(run, 0, 2, 1, 2);
        run.due("remove(0)", 0);
        counts(run, 0, 2, 1, 1);
        run.putAll(0, "\0\0\0\0\0\0\0\0");
        counts(run, 0, 9, 8, 2);
    }

    private static void views() {
        Run run = new Run("of a view's keys");
        run.putAll(1, "a", "ab", "b", "bc");
        run.due("b", "view(1, 0)", 3);
        run.due("view(3, 3)", 4);
        run.due("x", "view(1, 0)", 5);
        counts(run, 1, 4, 4, 3);
        counts(run, 3, 3, 2, 2);
        counts(run, 4, 3, 2, 2);
        counts(run, 5, 0, 0, 0);
        counts(run, 0, 0, 0, 0);
    }

    private static void staysAsItWas() {
        Run run = new Run("stays as the keys were");
        run.putAll(0, "ab", "ac");
        run.due("freeze(0)", 3);
        run.due("ab", "remove(0)", 0);
        run.due("ad", "put(0, 1)", -1);
        run.due("automaton(1)", 3);
        run.due("ab", "automaton(4)", 1);
        run.due("ad", "automaton(4)", 0);
        run.due("freeze(3)", Run.OUT_OF_BOUNDS);
        run.due("automaton(0)", 3);
        run.due("freeze(0)", 3);
        run.due("ab", "automaton(4)", 0);
        run.due("ad", "automaton(4)", 1);
    }

    private static void goes() {
        Run run = new Run("how far it goes");
        run.putAll(0, "abc", "abd", "b");
        run.due("freeze(0)", 4);
        run.due("abd", "automaton(3)", 3);
        run.due("abx", "automaton(3)", 2);
        run.due("abdefghi", "automaton(3)", 3);
        run.due("ba", "automaton(3)", 1);
        run.due("x", "automaton(3)", 0);
        run.due("", "automaton(3)", 0);
        run.due("abc", "automaton(4)", 1);
        run.due("ab", "automaton(4)", 0);
        run.due("abcd", "automaton(4)", 0);
        run.due("b", "automaton(4)", 1);
        run.due("", "automaton(4)", 0);
        run.putAll(0, "");
        run.due("freeze(0)", 4);
        run.due("", "automaton(4)", 1);
        run.due("freeze(1)", 0);
        run.due("a", "automaton(3)", -1);
        run.due("", "automaton(3)", -1);
        run.due("", "automaton(4)", 0);
    }

    private static void largeSets() {
        Run run = new Run("64 keys of 8 characters, all different");
        for (int i = 0; i < 64; i++) {
            StringBuilder key = new StringBuilder();
            for (int j = 0; j < 8; j++) {
                key.append((char) (1000 + 64 * j + i));
            }
            run.due(key.toString(), "put(0, 0)", -1);
        }
        counts(run, 0, 2 + 64 * 7, 64 * 8, 1);
        run = new Run("64 keys of 8 characters, all of two characters by two");
        for (int i = 0; i < 64; i++) {
            StringBuilder key = new StringBuilder("xx");
            for (int j = 0; j < 6; j++) {
                key.append((i >> j & 1) == 0 ? 'a' : 'b');
            }
            run.due(key.toString(), "put(0, 0)", -1);
        }
        counts(run, 0, 9, 2 + 12, 1);
    }

    private static void tape() {
        Run run = new Run("the tape is used by 3 and 4 alone");
        run.tape("a");
        run.due("freeze(0)", 0);
        for (int what = -1; what < 8; what++) {
            if (what != 3 && what != 4) {
                run.due("automaton(" + what + ")", what < 0 || what > 2 ? -1 : 0);
            }
        }
        run.tapeIs("a");
        run.tape("a");
        run.due("automaton(3)", -1);
        run.tapeIs("");
        run.tape("a");
        run.due("automaton(4)", 0);
        run.tapeIs("");
    }

    private static void wrongInputs() {
        Run run = new Run("no such view, another what");
        run.putAll(0, "a");
        run.due("freeze(0)", 2);
        for (String view : new String[] {"3", "-1", "12", "2147483647", "-2147483648"}) {
            run.due("freeze(" + view + ")", Run.OUT_OF_BOUNDS);
        }
        for (String what : new String[] {"-1", "5", "2147483647", "-2147483648"}) {
            run.due("automaton(" + what + ")", -1);
        }
        run.due("automaton(0)", 2);
    }
}
