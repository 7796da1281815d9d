import java.util.List;

/**
 * Each refused call: what it answers or throws, which of several exceptions, and "then nothing is
 * changed (but the tape)": of an object with the call and one without it the same is seen. Calls
 * that only ask are held to the same.
 */
public final class RefusedTest {
    private static final Scene EMPTY = new Scene().tape("ab");
    private static final Scene BUSY = busy();
    private static final Scene FULL = full();
    private static final String[] FAR = {"-2147483648", "-1", "12", "2147483647"};

    private static int cases = 0;
    private static int wrong = 0;

    public static void main(String[] args) {
        for (Scene scene : new Scene[] {EMPTY, BUSY, FULL}) {
            noSuchNumbers(scene);
            questions(scene);
        }
        firstViewNotMade();
        type();
        view();
        put();
        getAndRemove();
        findAtAndPoll();
        nextNotBegun();
        nextStopped();
        nextBehindTheLast();
        dropWithoutAKey();
        match();
        insert();
        delete();
        undo();
        System.out.println(cases + " refused calls and questions, " + wrong + " faults");
        if (wrong != 0) {
            System.exit(1);
        }
    }

    /**
     * Keys in all maps; views of map 0 (3: those with a, 4: turned round, 6: those with x, none)
     * and of map 1 (5); the iterator of 0 and of 3 has told keys, that of 1 is stopped, that of 4
     * is behind the last one, that of 5 has not begun, that of 6 has told none; a text with edits.
     */
    private static Scene busy() {
        return new Scene()
                .then("put(0, 0)").tape("a").then("put(0, 1)").tape("ab").then("put(0, 2)")
                .tape("abc").then("put(0, 3)").tape("b").then("put(0, 4)")
                .tape("a").then("put(1, 5)").tape("ab").then("put(1, 6)").tape("c").then("put(1, 7)")
                .tape("ab").then("put(2, 2147483647)")
                .tape("a").then("view(0, 0)").then("view(0, 3)").tape("b").then("view(1, 1)")
                .tape("x").then("view(0, 0)")
                .then("iterate(1)", "next(1)").tape("d").then("put(1, 8)")
                .then("iterate(4)", "next(4)", "next(4)", "next(4)", "next(4)", "next(4)")
                .then("iterate(0)", "next(0)", "iterate(6)", "iterate(3)", "next(3)", "next(3)")
                .then("freeze(3)")
                .tape("abcab").then("insert(0)", "delete(1, 2)").tape("ba").then("insert(4)")
                .then("undo()").tape("xyx").then("insert(2)", "insert(0)")
                .tape("ab");
    }

    /** Map 0 with 64 keys, twelve views (3: those of map 0 with b, none), a text of 120. */
    private static Scene full() {
        Scene scene = new Scene();
        for (int i = 0; i < 64; i++) {
            scene = scene.tape(String.valueOf((char) (1000 + i))).then("put(0, " + i + ")");
        }
        scene = scene.tape("b").then("view(0, 0)").then("view(0, 3)").tape("b").then("view(1, 1)");
        for (int view = 6; view < 12; view++) {
            scene = scene.then("view(" + (view - 2) + ", 3)");
        }
        scene = scene.tape("a").then("put(1, 5)").then("iterate(0)", "next(0)", "freeze(0)");
        for (int i = 0; i < 15; i++) {
            scene = scene.tape("abcdefgh").then("insert(0)");
        }
        return scene.tape("ab");
    }

    /** The call leaves all as it was, and the tape. */
    private static void leaves(Scene scene, String call, String want) {
        same(scene, call, want, scene);
    }

    /** The call takes the tape, and leaves all else as it was. */
    private static void uses(Scene scene, String call, String want) {
        same(scene, call, want, scene.then("get(0)"));
    }

    private static void same(Scene scene, String call, String want, Scene due) {
        cases++;
        String got = scene.answer(call);
        if (!got.equals(want)) {
            wrong++;
            System.out.println(name(scene) + call + " answered " + got + ", due is " + want);
        }
        List<String> seen = scene.then(call).seen();
        if (!seen.equals(due.seen())) {
            wrong++;
            int i = 0;
            while (seen.get(i).equals(due.seen().get(i))) {
                i++;
            }
            System.out.println(name(scene) + "behind " + call + " is seen " + seen.get(i)
                    + ", due is " + due.seen().get(i));
        }
    }

    private static String name(Scene scene) {
        return scene == EMPTY ? "a new object: " : scene == BUSY ? "keys and a text: "
                : scene == FULL ? "a full map, twelve views, a full text: " : "";
    }

    private static void noSuchNumbers(Scene scene) {
        for (String view : FAR) {
            for (String call : new String[] {"view(VIEW, 0)", "view(VIEW, 4)", "put(VIEW, 1)",
                "put(VIEW, -1)", "get(VIEW)", "remove(VIEW)", "find(VIEW, 4)", "find(VIEW, 7)",
                "at(VIEW, 0)", "at(VIEW, -1)", "poll(VIEW, true)", "poll(VIEW, false)",
                "next(VIEW)", "drop(VIEW)", "match(VIEW, 0)", "match(VIEW, -1)", "freeze(VIEW)"}) {
                leaves(scene, call.replace("VIEW", view), Run.OUT_OF_BOUNDS);
            }
            leaves(scene, "size(" + view + ")", "-1");
            leaves(scene, "iterate(" + view + ")", "false");
        }
        for (String number : new String[] {"-2147483648", "-3", "7", "2147483647"}) {
            leaves(scene, "view(0, " + number + ")", Run.OUT_OF_BOUNDS);
            leaves(scene, "find(0, " + number + ")", Run.OUT_OF_BOUNDS);
            leaves(scene, "edges(" + number + ")", Run.OUT_OF_BOUNDS);
            leaves(scene, "automaton(" + number + ")", "-1");
            leaves(scene, "locate(" + number + ")", "-1");
            leaves(scene, "suffix(0, " + number + ")", "-1");
        }
        for (String number : new String[] {"-2147483648", "-3", "121", "2147483647"}) {
            leaves(scene, "at(0, " + number + ")", Run.NO_ELEMENT);
            leaves(scene, "found(" + number + ")", "-1");
            leaves(scene, "letter(" + number + ")", "-1");
            leaves(scene, "suffix(" + number + ", 0)", "-1");
            leaves(scene, "suffix(" + number + ", 1)", "-1");
            leaves(scene, "insert(" + number + ")", Run.OUT_OF_BOUNDS);
            leaves(scene, "delete(0, " + number + ")", Run.OUT_OF_BOUNDS);
            leaves(scene, "delete(" + number + ", 0)", Run.OUT_OF_BOUNDS);
            leaves(scene, "type(97, " + number + ")", "false");
        }
    }

    /** Calls that only ask; what they answer is tested elsewhere. */
    private static void questions(Scene scene) {
        for (String call : new String[] {"size(0)", "size(2)", "found(-1)", "found(0)", "edges(0)",
            "edges(4)", "automaton(0)", "automaton(1)", "automaton(2)", "letter(-1)", "letter(-2)",
            "letter(0)", "suffix(0, 0)", "suffix(0, 1)", "suffix(119, 1)"}) {
            leaves(scene, call, scene.answer(call));
        }
        for (String call : new String[] {"get(0)", "get(1)", "match(0, 0)", "match(0, 2147483647)",
            "edges(5)", "automaton(3)", "automaton(4)", "locate(0)", "locate(1)"}) {
            uses(scene, call, scene.answer(call));
        }
    }

    private static void firstViewNotMade() {
        Scene[] scenes = {EMPTY, BUSY};
        int[] views = {3, 7};
        for (int i = 0; i < scenes.length; i++) {
            for (String call : new String[] {"view(VIEW, 3)", "put(VIEW, 1)", "get(VIEW)",
                "remove(VIEW)", "find(VIEW, 4)", "at(VIEW, 0)", "poll(VIEW, true)", "next(VIEW)",
                "drop(VIEW)", "match(VIEW, 0)", "freeze(VIEW)"}) {
                leaves(scenes[i], call.replace("VIEW", String.valueOf(views[i])),
                        Run.OUT_OF_BOUNDS);
            }
            leaves(scenes[i], "size(" + views[i] + ")", "-1");
            leaves(scenes[i], "iterate(" + views[i] + ")", "false");
        }
    }

    private static void type() {
        for (Scene scene : new Scene[] {EMPTY, BUSY, FULL}) {
            leaves(scene, "type(97, 0)", "false");
            leaves(scene, "type(97, -1)", "false");
            leaves(scene, "type(97, 5)", "false");
            Scene seven = scene.tape("cdefg");
            leaves(seven, "type(97, 2)", "false");
            leaves(seven, "type(97, 4)", "false");
            Scene eight = seven.tape("h");
            leaves(eight, "type(97, 1)", "false");
            leaves(eight, "type(97, 4)", "false");
            leaves(eight, "type(97, 0)", "false");
        }
    }

    private static void view() {
        for (int sort = 0; sort <= 3; sort++) {
            uses(FULL, "view(0, " + sort + ")", "-1");
            uses(FULL, "view(11, " + sort + ")", "-1");
        }
        for (Scene scene : new Scene[] {EMPTY, BUSY, FULL}) {
            leaves(scene, "view(0, -1)", Run.OUT_OF_BOUNDS);
            leaves(scene, "view(0, 4)", Run.OUT_OF_BOUNDS);
            leaves(scene, "view(-1, -1)", Run.OUT_OF_BOUNDS);
        }
    }

    private static void put() {
        for (Scene scene : new Scene[] {EMPTY, BUSY, FULL}) {
            for (int map = 0; map < 3; map++) {
                uses(scene, "put(" + map + ", -1)", Run.BAD_ARGUMENT);
                uses(scene, "put(" + map + ", -2147483648)", Run.BAD_ARGUMENT);
            }
        }
        uses(BUSY, "put(6, 1)", Run.BAD_ARGUMENT);
        uses(BUSY, "put(6, -1)", Run.BAD_ARGUMENT);
        uses(FULL, "put(0, 1)", Run.BAD_STATE);
        uses(FULL, "put(0, 2147483647)", Run.BAD_STATE);
        uses(FULL, "put(4, 1)", Run.BAD_STATE);
        uses(FULL, "put(3, 1)", Run.BAD_ARGUMENT);
        uses(FULL, "put(3, -1)", Run.BAD_ARGUMENT);
        Scene inRange = FULL.then("get(0)").tape("b");
        uses(inRange, "put(3, 1)", Run.BAD_STATE);
        uses(inRange, "put(3, -1)", Run.BAD_ARGUMENT);
        Scene key = FULL.then("get(0)").tape("\u03e8");
        uses(key, "put(0, -1)", Run.BAD_ARGUMENT);
        uses(key, "put(3, 1)", Run.BAD_ARGUMENT);
    }

    private static void getAndRemove() {
        uses(EMPTY, "get(0)", "-1");
        uses(BUSY, "get(0)", "2");
        uses(BUSY, "get(6)", "-1");
        uses(FULL, "get(0)", "-1");
        uses(EMPTY, "remove(0)", "-1");
        uses(BUSY, "remove(6)", "-1");
        uses(BUSY.tape("c"), "remove(2)", "-1");
        uses(FULL, "remove(0)", "-1");
        uses(FULL, "remove(3)", "-1");
        uses(FULL, "remove(2)", "-1");
    }

    private static void findAtAndPoll() {
        for (int how = 0; how <= 6; how++) {
            uses(EMPTY, "find(0, " + how + ")", Run.NO_ELEMENT);
            uses(BUSY, "find(6, " + how + ")", Run.NO_ELEMENT);
            uses(FULL, "find(3, " + how + ")", Run.NO_ELEMENT);
        }
        leaves(EMPTY, "at(0, 0)", Run.NO_ELEMENT);
        leaves(BUSY, "at(0, 5)", Run.NO_ELEMENT);
        leaves(BUSY, "at(6, 0)", Run.NO_ELEMENT);
        leaves(BUSY, "at(3, 3)", Run.NO_ELEMENT);
        leaves(BUSY, "at(3, -1)", Run.NO_ELEMENT);
        leaves(FULL, "at(0, 64)", Run.NO_ELEMENT);
        leaves(FULL, "at(0, -1)", Run.NO_ELEMENT);
        for (String last : new String[] {"true", "false"}) {
            leaves(EMPTY, "poll(0, " + last + ")", Run.NO_ELEMENT);
            leaves(BUSY, "poll(6, " + last + ")", Run.NO_ELEMENT);
            leaves(FULL, "poll(3, " + last + ")", Run.NO_ELEMENT);
        }
    }

    private static void nextNotBegun() {
        for (String name : new String[] {"next", "drop"}) {
            leaves(EMPTY, name + "(0)", Run.BAD_STATE);
            leaves(BUSY, name + "(2)", Run.BAD_STATE);
            leaves(BUSY, name + "(5)", Run.BAD_STATE);
            leaves(FULL, name + "(3)", Run.BAD_STATE);
            leaves(FULL, name + "(4)", Run.BAD_STATE);
        }
    }

    private static void nextStopped() {
        for (String name : new String[] {"next", "drop"}) {
            leaves(BUSY, name + "(1)", Run.BAD_STATE);
            Scene all = BUSY.then("poll(0, true)");
            leaves(all, name + "(0)", Run.BAD_STATE);
            leaves(all, name + "(3)", Run.BAD_STATE);
            leaves(all, name + "(4)", Run.BAD_STATE);
            leaves(all, name + "(6)", Run.BAD_STATE);
        }
    }

    private static void nextBehindTheLast() {
        leaves(EMPTY.then("iterate(0)"), "next(0)", Run.NO_ELEMENT);
        leaves(BUSY, "next(4)", Run.NO_ELEMENT);
        leaves(BUSY, "next(6)", Run.NO_ELEMENT);
        leaves(BUSY.then("drop(4)"), "next(4)", Run.NO_ELEMENT);
        leaves(FULL.then("iterate(3)"), "next(3)", Run.NO_ELEMENT);
    }

    private static void dropWithoutAKey() {
        leaves(EMPTY.then("iterate(0)"), "drop(0)", Run.BAD_STATE);
        leaves(BUSY, "drop(6)", Run.BAD_STATE);
        leaves(BUSY.then("iterate(3)"), "drop(3)", Run.BAD_STATE);
        leaves(BUSY.then("drop(3)"), "drop(3)", Run.BAD_STATE);
        leaves(BUSY.then("drop(4)"), "drop(4)", Run.BAD_STATE);
        leaves(BUSY.then("drop(4)", "next(4)"), "drop(4)", Run.BAD_STATE);
        leaves(FULL.then("drop(0)"), "drop(0)", Run.BAD_STATE);
    }

    private static void match() {
        for (Scene scene : new Scene[] {EMPTY, BUSY, FULL}) {
            uses(scene, "match(0, -1)", Run.BAD_ARGUMENT);
            uses(scene, "match(0, -2147483648)", Run.BAD_ARGUMENT);
        }
        uses(EMPTY, "match(0, 9)", "0");
        uses(BUSY, "match(6, 9)", "0");
        uses(BUSY, "match(0, 0)", "1");
    }

    private static void insert() {
        leaves(EMPTY, "insert(1)", Run.OUT_OF_BOUNDS);
        leaves(BUSY, "insert(8)", Run.OUT_OF_BOUNDS);
        for (String place : new String[] {"0", "60", "120"}) {
            uses(FULL, "insert(" + place + ")", Run.BAD_STATE);
        }
        for (String place : new String[] {"-1", "121"}) {
            leaves(FULL, "insert(" + place + ")", Run.OUT_OF_BOUNDS);
        }
        uses(FULL.then("delete(5, 6)"), "insert(0)", Run.BAD_STATE);
        uses(FULL.then("delete(5, 6)"), "insert(119)", Run.BAD_STATE);
        leaves(FULL.then("delete(5, 6)"), "insert(120)", Run.OUT_OF_BOUNDS);
    }

    private static void delete() {
        for (String places : new String[] {"-1, 0", "0, 1", "1, 1", "1, 0", "-1, -1"}) {
            leaves(EMPTY, "delete(" + places + ")", Run.OUT_OF_BOUNDS);
        }
        for (String places : new String[] {"-1, 7", "0, 8", "8, 8", "7, 6", "4, 3", "-2, -1"}) {
            leaves(BUSY, "delete(" + places + ")", Run.OUT_OF_BOUNDS);
        }
        for (String places : new String[] {"-1, 120", "0, 121", "121, 121", "120, 119"}) {
            leaves(FULL, "delete(" + places + ")", Run.OUT_OF_BOUNDS);
        }
    }

    private static void undo() {
        leaves(EMPTY, "undo()", "-1");
        leaves(BUSY.then("undo()", "undo()", "undo()", "undo()"), "undo()", "-1");
        Scene many = BUSY;
        for (int i = 0; i < 21; i++) {
            many = many.then("insert(0)");
        }
        for (int i = 0; i < 20; i++) {
            many = many.then("undo()");
        }
        leaves(many, "undo()", "-1");
    }
}
