import java.util.ArrayList;
import java.util.List;
import java.util.Random;

/** Long runs of calls, the same ones each time, on KeyHall and on the model; all promises. */
public final class ModelTest {
    private static final int RUNS = 2000;
    private static final int CALLS = 512;
    /** Few characters, so that texts meet; and some whose halves and bits are at their ends. */
    private static final String[] ALPHABETS = {
        "ab", "abc?", "\0\1\u00ff\u0100\u0101\uff00\uffff", "abcdefghijklmnopqrstuvwxyz", "a"
    };
    private static final int[] ODD = {-1, -2, 12, 7, 64, 121, Integer.MAX_VALUE, Integer.MIN_VALUE};

    private final Random random;
    private final String alphabet;
    /** How many keys of its own character at most a run has: more keys than shorter texts give. */
    private final boolean wide;
    private final KeyHall hall = new KeyHall();
    private final Model model = new Model();
    private final List<String> calls = new ArrayList<>();

    private ModelTest(int run) {
        random = new Random(run);
        alphabet = ALPHABETS[run % ALPHABETS.length];
        wide = run % 3 == 0;
    }

    public static void main(String[] args) {
        int wrong = 0;
        for (int run = 0; run < RUNS && wrong < 5; run++) {
            wrong += new ModelTest(run).differs(run) ? 1 : 0;
        }
        System.out.println(RUNS + " runs against the model, " + wrong + " of them differ");
        if (wrong != 0) {
            System.exit(1);
        }
    }

    /** Whether an answer differs; then the run up to it is printed. */
    private boolean differs(int run) {
        while (calls.size() < CALLS) {
            for (String call : chosen()) {
                calls.add(call);
                String got = Face.answer(hall, call);
                String want = Face.answer(model, call);
                if (!got.equals(want)) {
                    System.out.println("run " + run + ": " + String.join(" ", calls)
                            + " answered " + got + ", due is " + want);
                    return true;
                }
            }
        }
        return false;
    }

    /** A call, and for most of those that use the tape a text typed ahead of it. */
    private List<String> chosen() {
        List<String> chosen = new ArrayList<>();
        int kind = random.nextInt(wide ? 40 : 34);
        if (random.nextInt(8) != 0 && (kind < 16 || kind >= 34)) {
            chosen.addAll(List.of(Face.typing(text())));
        }
        chosen.add(kind >= 34 ? "put(" + random.nextInt(3) + ", " + value() + ")" : call(kind));
        return chosen;
    }

    private String call(int kind) {
        switch (kind) {
            case 0: return random.nextInt(3) != 0 ? put() : "view(" + view() + ", " + in(4) + ")";
            case 1: case 2: case 3: return put();
            case 4: return "get(" + view() + ")";
            case 5: return "remove(" + view() + ")";
            case 6: case 7: return "find(" + view() + ", " + in(7) + ")";
            case 8: return "match(" + view() + ", " + in(4) + ")";
            case 9: return "edges(5)";
            case 10: return "automaton(" + (3 + random.nextInt(2)) + ")";
            case 11: case 12: return "insert(" + place() + ")";
            case 13: case 14: return "locate(" + in(2) + ")";
            case 15: return "type(" + random.nextLong() + ", " + in(5) + ")";
            case 16: return "size(" + view() + ")";
            case 17: return "at(" + view() + ", " + in(1 + size()) + ")";
            case 18: return "poll(" + view() + ", " + random.nextBoolean() + ")";
            case 19: return "found(" + (random.nextInt(10) - 1) + ")";
            case 20: return "iterate(" + view() + ")";
            case 21: case 22: case 23: case 24: return "next(" + view() + ")";
            case 25: return "drop(" + view() + ")";
            case 26: return "edges(" + in(5) + ")";
            case 27: return "freeze(" + view() + ")";
            case 28: return "automaton(" + in(3) + ")";
            case 29: return "delete(" + place() + ", " + place() + ")";
            case 30: return "undo()";
            case 31: return "letter(" + (random.nextInt(5) - 2) + ")";
            case 32: return "letter(" + place() + ")";
            default: return "suffix(" + place() + ", " + in(2) + ")";
        }
    }

    private String put() {
        return "put(" + view() + ", " + value() + ")";
    }

    private String text() {
        StringBuilder text = new StringBuilder();
        int length = random.nextInt(random.nextInt(3) == 0 ? 9 : 4);
        for (int i = 0; i < length; i++) {
            text.append(alphabet.charAt(random.nextInt(alphabet.length())));
        }
        if (wide && length > 0 && random.nextInt(2) == 0) {
            text.setCharAt(random.nextInt(length), (char) (64 * random.nextInt(40)));
        }
        return text.toString();
    }

    private int in(int end) {
        return random.nextInt(30) == 0 ? ODD[random.nextInt(ODD.length)] : random.nextInt(end);
    }

    private int view() {
        int made = 3;
        while (model.size(made) >= 0) {
            made++;
        }
        return random.nextInt(3) == 0 ? in(3) : in(made);
    }

    private int size() {
        return Math.max(model.size(0), Math.max(model.size(1), model.size(2)));
    }

    private int place() {
        return in(model.letter(-1) + 1);
    }

    private int value() {
        return random.nextInt(40) == 0 ? ODD[random.nextInt(ODD.length)] : random.nextInt(1000);
    }
}
