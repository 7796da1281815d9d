/** A run of calls on a new object; prints every call whose answer is not the one that is due. */
final class Run {
    static final String OUT_OF_BOUNDS = "throws.IndexOutOfBoundsException";
    static final String BAD_ARGUMENT = "throws.IllegalArgumentException";
    static final String BAD_STATE = "throws.IllegalStateException";
    static final String NO_ELEMENT = "throws.NoSuchElementException";

    /** What later calls answer is free, so a run with more of them would test nothing. */
    static final int MOST_CALLS = 512;
    /** Numbers that no view, sort, what, how or place has, however many there are. */
    static final String[] FAR = {"-2147483648", "-2147483647", "-3", "121", "2147483646",
        "2147483647"};

    private static int answers = 0;
    private static int wrong = 0;

    private final String title;
    private final KeyHall hall = new KeyHall();
    private int calls = 0;

    Run(String title) {
        this.title = title;
    }

    /** To be called when all runs of a test are done. */
    static void finish() {
        System.out.println(answers + " answers, " + wrong + " of them not as due");
        if (wrong != 0 || answers == 0) {
            System.exit(1);
        }
    }

    void due(String call, String want) {
        expect(call, ask(call), want);
    }

    void due(String call, int want) {
        due(call, String.valueOf(want));
    }

    void due(String call, boolean want) {
        due(call, String.valueOf(want));
    }

    /** The same, with a text typed ahead of the call. */
    void due(String text, String call, String want) {
        tape(text);
        due(call, want);
    }

    void due(String text, String call, int want) {
        due(text, call, String.valueOf(want));
    }

    void tape(String text) {
        for (String call : Face.typing(text)) {
            due(call, true);
        }
    }

    /** What is on the tape; takes it, and leaves all else as it was but the oldest edit. */
    void tapeIs(String want) {
        int before = number("letter(-1)");
        int length = number("insert(0)") - before;
        StringBuilder tape = new StringBuilder();
        for (int i = 0; i < length; i++) {
            tape.append((char) number("letter(" + i + ")"));
        }
        number("undo()");
        expect("the tape", shown(tape.toString()), shown(want));
    }

    void foundIs(String want) {
        StringBuilder found = new StringBuilder();
        int length = number("found(-1)");
        for (int i = 0; i < length; i++) {
            found.append((char) number("found(" + i + ")"));
        }
        expect("found", shown(found.toString()), shown(want));
        due("found(" + want.length() + ")", KeyHall.NONE);
    }

    /** All keys of a view, in its order. */
    void keysAre(int view, String... want) {
        due("size(" + view + ")", want.length);
        for (int k = 0; k < want.length; k++) {
            number("at(" + view + ", " + k + ")");
            foundIs(want[k]);
        }
        due("at(" + view + ", " + want.length + ")", NO_ELEMENT);
    }

    void textIs(String want) {
        due("letter(-1)", want.length());
        for (int i = 0; i < want.length(); i++) {
            due("letter(" + i + ")", want.charAt(i));
        }
        due("letter(" + want.length() + ")", KeyHall.NONE);
        due("letter(-2)", want.hashCode());
    }

    /** Puts keys with the values 0, 1, 2, .. into a view. */
    void putAll(int view, String... keys) {
        for (int i = 0; i < keys.length; i++) {
            due(keys[i], "put(" + view + ", " + i + ")", KeyHall.NONE);
        }
    }

    /** Fills a map that has none with 64 keys of one character, from 1000 on. */
    void fill(int map) {
        for (int i = 0; i < 64; i++) {
            due(String.valueOf((char) (1000 + i)), "put(" + map + ", " + i + ")", KeyHall.NONE);
        }
    }

    /** Writes 120 characters into a text that has none: fifteen times the same eight. */
    void fillText(String eight) {
        for (int i = 0; i < 15; i++) {
            due(eight, "insert(" + 8 * i + ")", 8 * i + 8);
        }
    }

    private String ask(String call) {
        calls++;
        if (calls == MOST_CALLS + 1) {
            expect("the run's number of calls", "more than " + MOST_CALLS, "fewer");
        }
        return Face.answer(hall, call);
    }

    /** The answer of a call that must not throw; 0 if it does. */
    private int number(String call) {
        String answer = ask(call);
        if (answer.startsWith("throws")) {
            expect(call, answer, "a number");
            return 0;
        }
        return Integer.parseInt(answer);
    }

    private void expect(String what, String got, String want) {
        answers++;
        if (!got.equals(want)) {
            wrong++;
            System.out.println(title + ": " + what + " answered " + got + ", due is " + want);
        }
    }

    private static String shown(String text) {
        StringBuilder shown = new StringBuilder("'");
        for (int i = 0; i < text.length(); i++) {
            char letter = text.charAt(i);
            shown.append(letter > ' ' && letter < 127 ? String.valueOf(letter) : "\\" + (int) letter);
        }
        return shown.append("'").toString();
    }
}
