/**
 * The boundary cases that the document names for EDGES and promise 16. Each run has the document's
 * words as its title.
 */
public final class EdgesBoundsTest {
    public static void main(String[] args) {
        emptyMap();
        oneKey();
        emptyKeyAlone();
        emptyKeyWithOthers();
        twoDifferentBytes();
        keyThatOthersGoOnFrom();
        higherAndLowerHalf();
        eightCharacters();
        fansOfFourAndFive();
        fansOfSixteenAndSeventeen();
        fansOfFortyEightAndFortyNine();
        greatestFan();
        fansThatShrink();
        fansOfAKey();
        fansApart();
        fullMap();
        otherMaps();
        depthOfNoKey();
        depthOfOneKey();
        depthOfTheEmptyKey();
        depthAtEachBit();
        depthAtTheEnd();
        depthOfEightCharacters();
        differentPlacesAlone();
        depthInAFullMap();
        depthIsOfMapZero();
        tapeStays();
        tapeIsUsed();
        noSuchWhat();
        Run.finish();
    }

    /** How many INNER texts there are of all FANS, of at most 4, 5 to 16, 17 to 48, more. */
    private static void inner(Run run, int... want) {
        for (int what = 0; what <= 4; what++) {
            run.due("edges(" + what + ")", want[what]);
        }
    }

    /** One INNER text with a FAN. */
    private static void oneInner(Run run, int fan) {
        inner(run, 1, fan <= 4 ? 1 : 0, fan >= 5 && fan <= 16 ? 1 : 0,
                fan >= 17 && fan <= 48 ? 1 : 0, fan >= 49 ? 1 : 0);
    }

    private static void emptyMap() {
        Run run = new Run("what 0: how many INNER texts there are");
        inner(run, 0, 0, 0, 0, 0);
        run.due("a", "put(1, 1)", -1);
        run.due("b", "put(1, 1)", -1);
        oneInner(run, 2);
        run.due("poll(1, true)", 1);
        run.due("poll(1, true)", 1);
        inner(run, 0, 0, 0, 0, 0);
    }

    private static void oneKey() {
        Run run = new Run("what 0: how many INNER texts there are");
        run.putAll(1, "abcdefgh");
        inner(run, 0, 0, 0, 0, 0);
    }

    private static void emptyKeyAlone() {
        Run run = new Run("or which is a key itself that others go on from");
        run.putAll(1, "");
        inner(run, 0, 0, 0, 0, 0);
    }

    private static void emptyKeyWithOthers() {
        Run run = new Run("or which is a key itself that others go on from");
        run.putAll(1, "", "\0");
        oneInner(run, 1);
        run.putAll(1, "\0\0");
        inner(run, 2, 2, 0, 0, 0);
        run.due("", "remove(1)", 0);
        oneInner(run, 1);
        run.due("\0", "remove(1)", 1);
        inner(run, 0, 0, 0, 0, 0);
    }

    private static void twoDifferentBytes() {
        Run run = new Run("which either two different bytes follow in");
        run.putAll(1, "xa");
        inner(run, 0, 0, 0, 0, 0);
        run.putAll(1, "xb");
        oneInner(run, 2);
        run.putAll(1, "xc");
        oneInner(run, 3);
        run.putAll(1, "y");
        inner(run, 2, 2, 0, 0, 0);
    }

    private static void keyThatOthersGoOnFrom() {
        Run run = new Run("or which is a key itself that others go on from");
        String eight = "abcdefgh";
        for (int length = 8; length >= 0; length--) {
            run.due(eight.substring(0, length), "put(1, 1)", -1);
            int inner = 8 - length;
            inner(run, inner, inner, 0, 0, 0);
        }
    }

    private static void higherAndLowerHalf() {
        Run run = new Run("(each character as two, the higher half first)");
        run.putAll(1, "\u0100", "\u0101");
        oneInner(run, 2);
        run.putAll(1, "\u0200");
        inner(run, 2, 2, 0, 0, 0);
        run.putAll(1, "\u0201");
        inner(run, 3, 3, 0, 0, 0);
        run.due("\u0100", "remove(1)", 0);
        inner(run, 2, 2, 0, 0, 0);
        run.putAll(1, "\uff00", "\uffff");
        inner(run, 3, 3, 0, 0, 0);
    }

    private static void eightCharacters() {
        Run run = new Run("INNER text of bytes is one with which keys begin");
        run.putAll(1, "abcdefgh", "abcdefgi");
        oneInner(run, 2);
        run.putAll(1, "abcdefg");
        inner(run, 2, 2, 0, 0, 0);
        run.putAll(1, "abcdefg\uffff");
        inner(run, 2, 2, 0, 0, 0);
    }

    /** Fans made of lower halves, of higher ones, and of those behind eight bytes. */
    private static Run[] fans(String title) {
        return new Run[] {new Run(title), new Run(title), new Run(title)};
    }

    private static String key(int sort, int i) {
        String letter = String.valueOf((char) (sort == 1 ? i * 4 << 8 : i * 4));
        return sort == 2 ? "abcd" + letter : letter;
    }

    private static void fansUpTo(String title, int below) {
        Run[] runs = fans(title);
        for (int sort = 0; sort < runs.length; sort++) {
            for (int i = 0; i < below; i++) {
                runs[sort].due(key(sort, i), "put(1, 0)", -1);
            }
            oneInner(runs[sort], below);
            runs[sort].due(key(sort, 63), "put(1, 0)", -1);
            oneInner(runs[sort], below + 1);
            runs[sort].due(key(sort, 0), "remove(1)", 0);
            oneInner(runs[sort], below);
        }
    }

    private static void fansOfFourAndFive() {
        fansUpTo("1: of these those with a FAN of at most 4, 2: 5 to 16", 4);
    }

    private static void fansOfSixteenAndSeventeen() {
        fansUpTo("2: 5 to 16, 3: 17 to 48", 16);
    }

    private static void fansOfFortyEightAndFortyNine() {
        fansUpTo("3: 17 to 48, 4: more.", 48);
    }

    private static void greatestFan() {
        fansUpTo("3: 17 to 48, 4: more.", 63);
    }

    private static void fansThatShrink() {
        Run run = new Run("Its FAN is how many different bytes follow.");
        for (int i = 0; i < 64; i++) {
            run.due(key(0, i), "put(1, " + i + ")", -1);
        }
        for (int fan = 63; fan >= 2; fan--) {
            run.due("poll(1, " + (fan % 2 == 0) + ")", fan % 2 == 0 ? 64 - (64 - fan) / 2
                    : (63 - fan) / 2);
            int what = fan <= 4 ? 1 : fan <= 16 ? 2 : fan <= 48 ? 3 : 4;
            run.due("edges(" + what + ")", 1);
            run.due("edges(" + (what == 4 ? 3 : what + 1) + ")", 0);
        }
        run.due("poll(1, true)", 32);
        run.due("edges(0)", 0);
    }

    private static void fansOfAKey() {
        Run run = new Run("Its FAN is how many different bytes follow.");
        run.due("x", "put(1, 0)", -1);
        for (int fan = 1; fan <= 5; fan++) {
            run.due("x" + (char) (fan << 8), "put(1, 0)", -1);
            oneInner(run, fan);
        }
        run.due("x", "remove(1)", 0);
        oneInner(run, 5);
        run.due("x\u0100", "remove(1)", 0);
        oneInner(run, 4);
    }

    private static void fansApart() {
        Run run = new Run("1: of these those with a FAN of at most 4, 2: 5 to 16");
        run.due("", "put(1, 0)", -1);
        for (int i = 0; i < 17; i++) {
            run.due("a" + (char) i, "put(1, 0)", -1);
        }
        for (int i = 0; i < 5; i++) {
            run.due("b" + (char) i, "put(1, 0)", -1);
        }
        run.due("c", "put(1, 0)", -1);
        run.due("cd", "put(1, 0)", -1);
        // The empty key goes on by one byte, 0; behind it follow a, b, c.
        inner(run, 5, 3, 1, 1, 0);
    }

    private static void fullMap() {
        Run run = new Run("what 0: how many INNER texts there are");
        run.fill(1);
        // 1000 to 1023 begin with the byte 3, 1024 to 1063 with the byte 4.
        inner(run, 3, 1, 0, 2, 0);
        run.due("x", "put(1, 1)", Run.BAD_STATE);
        inner(run, 3, 1, 0, 2, 0);
    }

    private static void otherMaps() {
        Run run = new Run("EDGES of map 1");
        run.putAll(0, "a", "b", "ab");
        run.putAll(2, "a", "b", "ab");
        inner(run, 0, 0, 0, 0, 0);
        run.due("view(1, 3)", 3);
        run.putAll(3, "a", "b");
        oneInner(run, 2);
    }

    private static void depthOfNoKey() {
        Run run = new Run("NONE if it is no key of map 0");
        run.due("", "edges(5)", -1);
        run.due("a", "edges(5)", -1);
        run.putAll(0, "ab", "b");
        for (String key : new String[] {"", "a", "abc", "ab\0", "c", "abcdefgh"}) {
            run.due(key, "edges(5)", -1);
            run.tapeIs("");
        }
        run.due("ab", "remove(0)", 0);
        run.due("ab", "edges(5)", -1);
    }

    private static void depthOfOneKey() {
        Run run = new Run("how many different places there are at which another key of this map"
                + " first differs from it");
        run.putAll(0, "");
        run.due("", "edges(5)", 0);
        run.due("", "remove(0)", 0);
        run.putAll(0, "abcdefgh");
        run.due("abcdefgh", "edges(5)", 0);
    }

    private static void depthOfTheEmptyKey() {
        Run run = new Run("behind the last one 0 without end");
        run.putAll(0, "", "\0");
        run.due("", "edges(5)", 1);
        run.due("\0", "edges(5)", 1);
        run.putAll(0, "\uffff", "a", "\0\0");
        run.due("", "edges(5)", 1);
        run.due("\0", "edges(5)", 4);
    }

    private static void depthAtEachBit() {
        Run run = new Run("(each character as 1 and then its 16 bits, the highest first");
        run.putAll(0, "\0", "\u8000");
        run.due("\0", "edges(5)", 1);
        run.putAll(0, "\uc000");
        run.due("\0", "edges(5)", 1);
        run.due("\u8000", "edges(5)", 2);
        run.putAll(0, "\1");
        run.due("\0", "edges(5)", 2);
        run.due("\1", "edges(5)", 2);
        run.putAll(0, "\u0100", "\u00ff");
        run.due("\0", "edges(5)", 4);
        run.due("\u0100", "edges(5)", 2);
    }

    private static void depthAtTheEnd() {
        Run run = new Run("behind the last one 0 without end");
        String eight = "\0\0\0\0\0\0\0\0";
        for (int length = 0; length <= 8; length++) {
            run.due(eight.substring(0, length), "put(0, 0)", -1);
        }
        run.due("", "edges(5)", 1);
        for (int length = 1; length < 8; length++) {
            run.due(eight.substring(0, length), "edges(5)", length + 1);
        }
        run.due(eight, "edges(5)", 8);
    }

    private static void depthOfEightCharacters() {
        Run run = new Run("(each character as 1 and then its 16 bits, the highest first");
        String seven = "\uffff\uffff\uffff\uffff\uffff\uffff\uffff";
        run.putAll(0, seven + "\uffff", seven + "\ufffe", seven + "\u7fff", seven);
        run.due(seven + "\uffff", "edges(5)", 3);
        run.due(seven + "\ufffe", "edges(5)", 3);
        run.due(seven + "\u7fff", "edges(5)", 2);
        run.due(seven, "edges(5)", 1);
    }

    private static void differentPlacesAlone() {
        Run run = new Run("how many different places there are");
        run.putAll(0, "a", "b");
        run.due("a", "edges(5)", 1);
        run.putAll(0, "c");
        run.due("a", "edges(5)", 1);
        run.putAll(0, "bb", "bc");
        run.due("a", "edges(5)", 1);
        run.due("c", "remove(0)", 0);
        run.due("b", "remove(0)", 1);
        run.due("a", "edges(5)", 1);
        run.due("bb", "remove(0)", 0);
        run.due("bc", "remove(0)", 1);
        run.due("a", "edges(5)", 0);
    }

    private static void depthInAFullMap() {
        Run run = new Run("how many different places there are");
        for (int i = 0; i < 64; i++) {
            run.due(String.valueOf((char) i), "put(0, 0)", -1);
        }
        for (int i = 0; i < 64; i++) {
            run.due(String.valueOf((char) i), "edges(5)", 6);
        }
        run.due("\u0040", "edges(5)", -1);
    }

    private static void depthIsOfMapZero() {
        Run run = new Run("The DEPTH of a key in map 0");
        run.putAll(1, "a", "b");
        run.putAll(2, "a", "b");
        run.due("a", "edges(5)", -1);
        run.putAll(0, "a");
        run.due("a", "edges(5)", 0);
    }

    private static void tapeStays() {
        Run run = new Run("(With the others the tape stays.)");
        run.tape("abcdefgh");
        inner(run, 0, 0, 0, 0, 0);
        run.tapeIs("abcdefgh");
        run.fill(1);
        run.tape("b");
        inner(run, 3, 1, 0, 2, 0);
        run.tapeIs("b");
    }

    private static void tapeIsUsed() {
        Run run = new Run("5: the DEPTH of the tape's text (USED), NONE if it is no key of map 0");
        run.due("abcdefgh", "edges(5)", -1);
        run.tapeIs("");
        run.putAll(0, "abcdefgh");
        run.due("abcdefgh", "edges(5)", 0);
        run.tapeIs("");
    }

    private static void noSuchWhat() {
        Run run = new Run("IndexOutOfBoundsException: no such what.");
        run.putAll(0, "a");
        run.tape("a");
        run.due("edges(-1)", Run.OUT_OF_BOUNDS);
        run.due("edges(6)", Run.OUT_OF_BOUNDS);
        for (String what : Run.FAR) {
            run.due("edges(" + what + ")", Run.OUT_OF_BOUNDS);
        }
        run.tapeIs("a");
    }
}
