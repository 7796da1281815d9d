import java.util.ArrayList;
import java.util.Arrays;
import java.util.List;

/** Calls that bring a new object into a state, and all that can be seen of such a state. */
final class Scene {
    private static final List<List<String>> LOOKS = looks();

    private final List<String> calls;
    /** What is seen, once it has been looked at. */
    private List<String> seen;

    Scene() {
        this(List.of());
    }

    private Scene(List<String> calls) {
        this.calls = calls;
    }

    /** The same scene with calls behind it. */
    Scene then(String... more) {
        List<String> all = new ArrayList<>(calls);
        all.addAll(Arrays.asList(more));
        return new Scene(all);
    }

    Scene tape(String text) {
        return then(Face.typing(text));
    }

    String answer(String call) {
        List<String> answers = answers(List.of(call));
        return answers.get(answers.size() - 1);
    }

    /** All that can be seen; looking changes an object, so each look has an object of its own. */
    List<String> seen() {
        if (seen == null) {
            seen = new ArrayList<>();
            for (List<String> look : LOOKS) {
                List<String> answers = answers(look);
                for (int i = 0; i < look.size(); i++) {
                    seen.add(look.get(i) + " " + answers.get(calls.size() + i));
                }
            }
        }
        return seen;
    }

    private List<String> answers(List<String> more) {
        if (calls.size() + more.size() > Run.MOST_CALLS) {
            throw new AssertionError("more than " + Run.MOST_CALLS + " calls");
        }
        KeyHall hall = new KeyHall();
        List<String> answers = new ArrayList<>();
        for (String call : calls) {
            answers.add(Face.answer(hall, call));
        }
        for (String call : more) {
            answers.add(Face.answer(hall, call));
        }
        return answers;
    }

    private static List<List<String>> looks() {
        List<List<String>> looks = new ArrayList<>();
        looks.add(tapeAsKey());
        looks.add(tapeAsText());
        looks.add(foundTextAndEdits());
        looks.add(suffixes());
        for (int map = 0; map < 3; map++) {
            looks.add(keys(map));
        }
        looks.add(views());
        looks.add(iterators());
        for (int view = 0; view < 6; view++) {
            looks.add(List.of("drop(" + view + ")", "size(0)", "size(1)", "size(2)",
                    "next(" + view + ")", "drop(" + view + ")", "next(" + view + ")"));
        }
        looks.add(textsOfTheAutomaton());
        return looks;
    }

    private static List<String> tapeAsKey() {
        List<String> look = new ArrayList<>(List.of("put(2, 5)", "put(2, 6)"));
        for (int k = 0; k < 4; k++) {
            look.add("at(2, " + k + ")");
            addAll(look, "found(", -1, 8);
        }
        return look;
    }

    private static List<String> tapeAsText() {
        List<String> look = new ArrayList<>(List.of("insert(0)", "insert(0)"));
        addAll(look, "letter(", -2, 9);
        look.add("view(0, 3)");
        look.add("size(12)");
        return look;
    }

    private static List<String> foundTextAndEdits() {
        List<String> look = new ArrayList<>();
        addAll(look, "found(", -1, 8);
        addAll(look, "size(", 0, 12);
        addAll(look, "automaton(", 0, 2);
        addAll(look, "edges(", 0, 4);
        addAll(look, "letter(", -2, 120);
        for (int i = 0; i < 22; i++) {
            look.add("undo()");
            look.add("letter(-2)");
        }
        return look;
    }

    private static List<String> suffixes() {
        List<String> look = new ArrayList<>();
        for (int k = 0; k < 120; k++) {
            look.add("suffix(" + k + ", 0)");
            look.add("suffix(" + k + ", 1)");
        }
        return look;
    }

    private static List<String> keys(int map) {
        List<String> look = new ArrayList<>();
        for (int k = 0; k <= 64; k++) {
            look.add("at(" + map + ", " + k + ")");
            addAll(look, "found(", -1, 1);
        }
        return look;
    }

    private static List<String> views() {
        List<String> look = new ArrayList<>();
        for (int view = 3; view < 12; view++) {
            look.add("at(" + view + ", 0)");
            addAll(look, "found(", -1, 2);
            look.add("find(" + view + ", 5)");
            addAll(look, "found(", -1, 2);
        }
        return look;
    }

    private static List<String> iterators() {
        List<String> look = new ArrayList<>();
        for (int step = 0; step < 2; step++) {
            for (int view = 0; view < 12; view++) {
                look.add("next(" + view + ")");
                addAll(look, "found(", -1, 2);
            }
        }
        return look;
    }

    private static List<String> textsOfTheAutomaton() {
        // The first one takes what is on the tape.
        List<String> look = new ArrayList<>(List.of("automaton(3)"));
        for (String text : new String[] {"", "a", "ab", "abc", "b", "x", "\u03e8"}) {
            for (String call : new String[] {"automaton(3)", "automaton(4)", "edges(5)"}) {
                look.addAll(Arrays.asList(Face.typing(text)));
                look.add(call);
            }
        }
        return look;
    }

    private static void addAll(List<String> look, String name, int from, int to) {
        for (int i = from; i <= to; i++) {
            look.add(name + i + ")");
        }
    }
}
