import java.util.ArrayList;
import java.util.Collections;
import java.util.List;
import java.util.Random;

/** Long runs of calls, the same ones each time, on KeyHall and on the model; all promises. */
public final class ModelTest {
    private static final int RUNS = 2000;
    /** Few characters, so that texts meet; and some whose halves and bits are at their ends. */
    private static final String[] ALPHABETS = {
        "ab", "abc?", "\0\1\u00ff\u0100\u0101\uff00\uffff", "abcdefghijklmnopqrstuvwxyz", "a"
    };
    private static final int[] ODD = {-1, -2, 12, 7, 64, 121, Integer.MAX_VALUE, Integer.MIN_VALUE};

    private static final int KINDS = 28;
    /** The kinds ahead of this one use the tape. */
    private static final int NO_TAPE = 12;
    private static final int PUT = 1;
    private static final int INSERT = 9;
    private static final int ITERATE = 17;
    /** How often a kind of call comes in a run: never, at times, often, nearly always. */
    private static final int[] WEIGHTS = {0, 1, 1, 1, 4, 4, 40};

    private final Random random;
    private final String alphabet;
    /** Whether texts have characters beyond the alphabet, so that maps get full. */
    private final boolean wide;
    private final int favourite;
    /** The kinds of calls, each as often as its weight: runs differ in what they mostly do. */
    private final List<Integer> kinds = new ArrayList<>();
    private final List<String> typed = new ArrayList<>();
    private final KeyHall hall = new KeyHall();
    private final Model model = new Model();
    private final List<String> calls = new ArrayList<>();

    private ModelTest(int run) {
        random = new Random(run);
        alphabet = ALPHABETS[run % ALPHABETS.length];
        wide = run % 3 == 0;
        favourite = random.nextInt(3);
        for (int kind = 0; kind < KINDS; kind++) {
            kinds.addAll(Collections.nCopies(WEIGHTS[random.nextInt(WEIGHTS.length)], kind));
        }
        kinds.addAll(Collections.nCopies(wide ? 60 : 6, PUT));
        kinds.addAll(Collections.nCopies(6, INSERT));
    }

    public static void main(String[] args) {
        int wrong = 0;
        for (int run = 0; run < RUNS && wrong < 5; run++) {
            wrong += new ModelTest(run).differs(run) ? 1 : 0;
        }
        System.out.println(RUNS + " runs against the model, " + wrong + " of them differ");
        if (wrong != 0) {
            System.exit(1);
        }
    }

    /** Whether an answer differs; then the run up to it is printed. */
    private boolean differs(int run) {
        while (calls.size() < Run.MOST_CALLS) {
            for (String call : chosen()) {
                if (calls.size() < Run.MOST_CALLS && differs(run, call)) {
                    return true;
                }
            }
        }
        return false;
    }

    private boolean differs(int run, String call) {
        calls.add(call);
        String got = Face.answer(hall, call);
        String want = Face.answer(model, call);
        if (!got.equals(want)) {
            System.out.println("run " + run + ": " + String.join(" ", calls)
                    + " answered " + got + ", due is " + want);
        }
        return !got.equals(want);
    }

    /** A call, and for most of those that use the tape a text typed ahead of it. */
    private List<String> chosen() {
        List<String> chosen = new ArrayList<>();
        int kind = kinds.get(random.nextInt(kinds.size()));
        if (kind < NO_TAPE && random.nextInt(12) != 0) {
            chosen.addAll(List.of(Face.typing(text())));
        }
        chosen.add(call(kind));
        if (kind == ITERATE) {
            chosen.addAll(walk());
        }
        return chosen;
    }

    /** An iterator that goes on for a while, with nothing between. */
    private List<String> walk() {
        List<String> walk = new ArrayList<>();
        int view = view();
        walk.add("iterate(" + view + ")");
        for (int i = random.nextInt(9); i > 0; i--) {
            walk.add((random.nextInt(3) == 0 ? "drop(" : "next(") + view + ")");
        }
        return walk;
    }

    private String call(int kind) {
        switch (kind) {
            case 0: return "view(" + view() + ", " + in(4) + ")";
            case PUT: case 2: return "put(" + view() + ", " + value() + ")";
            case 3: return "get(" + view() + ")";
            case 4: return "remove(" + view() + ")";
            case 5: return "find(" + view() + ", " + in(7) + ")";
            case 6: return "match(" + view() + ", " + in(4) + ")";
            case 7: return "edges(5)";
            case 8: return "automaton(" + (3 + random.nextInt(2)) + ")";
            case INSERT: return "insert(" + place() + ")";
            case 10: case 11: return "locate(" + in(2) + ")";
            case 12: return "type(" + random.nextLong() + ", " + in(5) + ")";
            case 13: return "size(" + view() + ")";
            case 14: return "at(" + view() + ", " + in(1 + model.size(favourite)) + ")";
            case 15: return "poll(" + view() + ", " + random.nextBoolean() + ")";
            case 16: return "found(" + (random.nextInt(10) - 1) + ")";
            case ITERATE: return "iterate(" + view() + ")";
            case 18: case 19: return "next(" + view() + ")";
            case 20: return "drop(" + view() + ")";
            case 21: return "edges(" + in(5) + ")";
            case 22: return "freeze(" + view() + ")";
            case 23: return "automaton(" + in(3) + ")";
            case 24: return "delete(" + place() + ", " + place() + ")";
            case 25: return "undo()";
            case 26: return "letter(" + (random.nextBoolean() ? -2 : place()) + ")";
            default: return "suffix(" + place() + ", " + in(2) + ")";
        }
    }

    /** A new text, or one that was typed in this run. */
    private String text() {
        if (!typed.isEmpty() && random.nextInt(3) == 0) {
            return typed.get(random.nextInt(typed.size()));
        }
        StringBuilder text = new StringBuilder();
        int length = random.nextInt(random.nextInt(3) == 0 ? 9 : 4);
        for (int i = 0; i < length; i++) {
            text.append(alphabet.charAt(random.nextInt(alphabet.length())));
        }
        if (wide && length > 0 && random.nextInt(2) == 0) {
            text.setCharAt(random.nextInt(length), (char) (64 * random.nextInt(40)));
        }
        typed.add(text.toString());
        return text.toString();
    }

    private int in(int end) {
        return random.nextInt(30) == 0 ? ODD[random.nextInt(ODD.length)] : random.nextInt(end);
    }

    private int view() {
        int made = 3;
        while (model.size(made) >= 0) {
            made++;
        }
        return random.nextInt(2) == 0 ? favourite : in(made);
    }

    private int place() {
        return in(model.letter(-1) + 1);
    }

    private int value() {
        return random.nextInt(40) == 0 ? ODD[random.nextInt(ODD.length)] : random.nextInt(1000);
    }
}
