import java.util.ArrayList;
import java.util.Collections;
import java.util.List;

/**
 * The boundary cases that the document names for SUFFIXES and promises 23 and 24. Each run has the
 * document's words as its title.
 */
public final class SuffixBoundsTest {
    private static final String EIGHT = "abcdefgh";

    public static void main(String[] args) {
        suffixOfNothing();
        suffixOfOne();
        ofAllToTheLast();
        beginningIsBefore();
        outermostCharacters();
        alikeInAFullText();
        differentInAFullText();
        repeatedInAFullText();
        mixedInAFullText();
        sharedOfTheFirst();
        sharedWithTheOneBefore();
        noSuchSuffix();
        noSuchSuffixOfAFullText();
        anotherWhatOfASuffix();
        suffixFollowsEdits();
        suffixLeavesTheTape();
        places();
        placesThatOverlap();
        placesOfAll();
        placesOfMoreThanAll();
        placesInAFullText();
        placesOfTheEmptyOne();
        placesInNothing();
        leastSuffix();
        noSuffix();
        leastSuffixOfTheEmptyOne();
        leastSuffixOfAll();
        anotherWhatLeavesTheTape();
        locateUsesTheTape();
        locateFollowsEdits();
        Run.finish();
    }

    private static void suffixes(Run run, int[] starts, int[] shared) {
        for (int k = 0; k < starts.length; k++) {
            run.due("suffix(" + k + ", 0)", starts[k]);
            run.due("suffix(" + k + ", 1)", shared[k]);
        }
        run.due("suffix(" + starts.length + ", 0)", -1);
        run.due("suffix(" + starts.length + ", 1)", -1);
    }

    private static void suffixOfNothing() {
        Run run = new Run("NONE if there is none such.");
        suffixes(run, new int[0], new int[0]);
        run.due("suffix(-1, 0)", -1);
        run.due("suffix(-1, 1)", -1);
        run.due("a", "insert(0)", 1);
        run.due("delete(0, 1)", 0);
        suffixes(run, new int[0], new int[0]);
    }

    private static void suffixOfOne() {
        Run run = new Run("Where suffix k begins (what 0)");
        run.due("a", "insert(0)", 1);
        suffixes(run, new int[] {0}, new int[] {0});
    }

    private static void ofAllToTheLast() {
        Run run = new Run("that of all of it to that of its last character, are numbered by ORDER");
        run.due("abc", "insert(0)", 3);
        suffixes(run, new int[] {0, 1, 2}, new int[] {0, 0, 0});
        run.due("delete(0, 3)", 0);
        run.due("cba", "insert(0)", 3);
        suffixes(run, new int[] {2, 1, 0}, new int[] {0, 0, 0});
    }

    private static void beginningIsBefore() {
        Run run = new Run("that of all of it to that of its last character, are numbered by ORDER");
        run.due("abab", "insert(0)", 4);
        suffixes(run, new int[] {2, 0, 3, 1}, new int[] {0, 2, 0, 1});
        run.due("delete(0, 4)", 0);
        run.due("\0\0\0", "insert(0)", 3);
        suffixes(run, new int[] {2, 1, 0}, new int[] {0, 1, 2});
    }

    private static void outermostCharacters() {
        Run run = new Run("that of all of it to that of its last character, are numbered by ORDER");
        run.due("\uffff\u8000\u7fff\0", "insert(0)", 4);
        suffixes(run, new int[] {3, 2, 1, 0}, new int[] {0, 0, 0, 0});
        run.due("\u00ff\u0100", "insert(4)", 6);
        suffixes(run, new int[] {3, 4, 5, 2, 1, 0}, new int[] {0, 0, 0, 0, 0, 0});
    }

    private static void alikeInAFullText() {
        for (String eight : new String[] {"\0\0\0\0\0\0\0\0", "aaaaaaaa"}) {
            Run run = new Run("how many characters it has in common, from their first on, with"
                    + " suffix k - 1");
            run.fillText(eight);
            for (int k = 0; k < 120; k++) {
                run.due("suffix(" + k + ", 0)", 119 - k);
                run.due("suffix(" + k + ", 1)", k);
            }
            run.due("suffix(120, 0)", -1);
            run.due("suffix(120, 1)", -1);
        }
    }

    /** 120 characters that all differ, the greatest first. */
    private static void differentInAFullText() {
        Run run = new Run("are numbered by ORDER, 0 .. .");
        for (int i = 0; i < 15; i++) {
            StringBuilder eight = new StringBuilder();
            for (int j = 0; j < 8; j++) {
                eight.append((char) (65535 - 8 * i - j));
            }
            run.due(eight.toString(), "insert(" + 8 * i + ")", 8 * i + 8);
        }
        for (int k = 0; k < 120; k++) {
            run.due("suffix(" + k + ", 0)", 119 - k);
            run.due("suffix(" + k + ", 1)", 0);
        }
        run.due("suffix(120, 0)", -1);
    }

    private static void repeatedInAFullText() {
        Run run = new Run("how many characters it has in common, from their first on, with"
                + " suffix k - 1");
        run.fillText(EIGHT);
        for (int letter = 0; letter < 8; letter++) {
            for (int i = 0; i < 15; i++) {
                int k = 15 * letter + i;
                run.due("suffix(" + k + ", 0)", 8 * (14 - i) + letter);
                run.due("suffix(" + k + ", 1)", i == 0 ? 0 : 8 * i - letter);
            }
        }
    }

    /** By the library's own order of texts, which is ORDER. */
    private static void mixedInAFullText() {
        for (String eight : new String[] {"banbanan", "cabcbaab", "\uffff\0\uffff\uffff\0\0\uffff\0"}) {
            Run run = new Run("that of all of it to that of its last character, are numbered by"
                    + " ORDER");
            run.fillText(eight);
            run.due("delete(100, 101)", 119);
            String text = eight.repeat(15).substring(0, 100) + eight.repeat(15).substring(101);
            List<String> sorted = new ArrayList<>();
            for (int i = 0; i < 119; i++) {
                sorted.add(text.substring(i));
            }
            Collections.sort(sorted);
            for (int k = 0; k < 119; k++) {
                run.due("suffix(" + k + ", 0)", 119 - sorted.get(k).length());
            }
            run.due("suffix(119, 0)", -1);
        }
    }

    private static void sharedOfTheFirst() {
        Run run = new Run("of suffix 0: 0");
        for (String text : new String[] {"a", "aa", "ba", "abab"}) {
            run.due(text, "insert(0)", text.length());
            run.due("suffix(0, 1)", 0);
            run.due("undo()", 0);
        }
        run.due("suffix(0, 1)", -1);
    }

    private static void sharedWithTheOneBefore() {
        Run run = new Run("how many characters it has in common, from their first on, with"
                + " suffix k - 1");
        run.due("aab", "insert(0)", 3);
        suffixes(run, new int[] {0, 1, 2}, new int[] {0, 1, 0});
        run.due("aab", "insert(3)", 6);
        suffixes(run, new int[] {3, 0, 4, 1, 5, 2}, new int[] {0, 3, 1, 2, 0, 1});
    }

    private static void noSuchSuffix() {
        Run run = new Run("NONE if there is none such.");
        run.due("abc", "insert(0)", 3);
        for (int what = 0; what <= 1; what++) {
            run.due("suffix(-1, " + what + ")", -1);
            run.due("suffix(3, " + what + ")", -1);
            run.due("suffix(120, " + what + ")", -1);
            for (String k : Run.FAR) {
                run.due("suffix(" + k + ", " + what + ")", -1);
            }
        }
    }

    private static void noSuchSuffixOfAFullText() {
        Run run = new Run("NONE if there is none such.");
        run.fillText(EIGHT);
        run.due("suffix(119, 0)", 7);
        run.due("suffix(120, 0)", -1);
        run.due("suffix(119, 1)", 105);
        run.due("suffix(120, 1)", -1);
        run.due("suffix(-1, 1)", -1);
    }

    private static void anotherWhatOfASuffix() {
        Run run = new Run("of another what NONE");
        run.due("abc", "insert(0)", 3);
        for (int k = -1; k <= 3; k++) {
            run.due("suffix(" + k + ", -1)", -1);
            run.due("suffix(" + k + ", 2)", -1);
            for (String what : Run.FAR) {
                run.due("suffix(" + k + ", " + what + ")", -1);
            }
        }
    }

    private static void suffixFollowsEdits() {
        Run run = new Run("SUFFIXES of it, that of all of it to that of its last character");
        run.due("ab", "insert(0)", 2);
        suffixes(run, new int[] {0, 1}, new int[] {0, 0});
        run.due("undo()", 0);
        suffixes(run, new int[0], new int[0]);
        run.due("ba", "insert(0)", 2);
        suffixes(run, new int[] {1, 0}, new int[] {0, 0});
        run.due("b", "insert(2)", 3);
        suffixes(run, new int[] {1, 2, 0}, new int[] {0, 0, 1});
        run.due("delete(1, 2)", 2);
        suffixes(run, new int[] {1, 0}, new int[] {0, 1});
        run.due("undo()", 3);
        suffixes(run, new int[] {1, 2, 0}, new int[] {0, 0, 1});
        run.due("delete(3, 3)", 3);
        suffixes(run, new int[] {1, 2, 0}, new int[] {0, 0, 1});
    }

    private static void suffixLeavesTheTape() {
        Run run = new Run("A call that is told to USE it takes it all, and leaves it empty");
        run.due("ab", "insert(0)", 2);
        run.tape("q");
        run.due("suffix(0, 0)", 0);
        run.due("suffix(1, 1)", 0);
        run.due("suffix(2, 0)", -1);
        run.due("suffix(0, 2)", -1);
        run.tapeIs("q");
    }

    private static final String PLACES = "How many places of the TEXT there are at which the tape's"
            + " text (USED) stands (0)";

    private static void places() {
        Run run = new Run(PLACES);
        run.due("abcab", "insert(0)", 5);
        run.due("ab", "locate(0)", 2);
        run.due("b", "locate(0)", 2);
        run.due("ca", "locate(0)", 1);
        run.due("ba", "locate(0)", 0);
        run.due("bc", "locate(0)", 1);
        run.due("d", "locate(0)", 0);
    }

    private static void placesThatOverlap() {
        Run run = new Run(PLACES);
        run.due("aaaaa", "insert(0)", 5);
        for (int length = 1; length <= 5; length++) {
            run.due("aaaaa".substring(0, length), "locate(0)", 6 - length);
        }
        run.due("aaaaaa", "locate(0)", 0);
    }

    private static void placesOfAll() {
        Run run = new Run(PLACES);
        run.due(EIGHT, "insert(0)", 8);
        run.due(EIGHT, "locate(0)", 1);
        run.due("h", "locate(0)", 1);
        run.due("gh", "locate(0)", 1);
        run.due("a", "locate(0)", 1);
        run.due("ha", "locate(0)", 0);
    }

    private static void placesOfMoreThanAll() {
        Run run = new Run(PLACES);
        run.due("ab", "insert(0)", 2);
        run.due("abc", "locate(0)", 0);
        run.due("bc", "locate(0)", 0);
        run.due("ab\0", "locate(0)", 0);
        run.due("b\0", "locate(0)", 0);
    }

    private static void placesInAFullText() {
        Run run = new Run(PLACES);
        run.fillText("aaaaaaab");
        run.due("aaaaaaab", "locate(0)", 15);
        run.due("abaaaaaa", "locate(0)", 14);
        run.due("b", "locate(0)", 15);
        run.due("a", "locate(0)", 105);
        run.due("ba", "locate(0)", 14);
        run.due("", "locate(0)", 120);
        run.due("bb", "locate(0)", 0);
        run.due("aaaaaaaa", "locate(0)", 0);
    }

    private static void placesOfTheEmptyOne() {
        Run run = new Run("(The empty one stands at each character.)");
        for (int length = 0; length <= 3; length++) {
            run.due("", "locate(0)", length);
            run.due("a", "insert(0)", length + 1);
        }
    }

    private static void placesInNothing() {
        Run run = new Run(PLACES);
        run.due("", "locate(0)", 0);
        run.due("a", "locate(0)", 0);
        run.due("\0", "locate(0)", 0);
        run.due("abcdefgh", "locate(0)", 0);
        run.due("a", "locate(1)", -1);
    }

    private static final String LEAST = "the number of the least suffix that begins with it";

    private static void leastSuffix() {
        Run run = new Run(LEAST);
        run.due("abcab", "insert(0)", 5);
        // ab, abcab, b, bcab, cab
        run.due("ab", "locate(1)", 0);
        run.due("abc", "locate(1)", 1);
        run.due("abcab", "locate(1)", 1);
        run.due("b", "locate(1)", 2);
        run.due("bc", "locate(1)", 3);
        run.due("c", "locate(1)", 4);
        run.due("cab", "locate(1)", 4);
    }

    private static void noSuffix() {
        Run run = new Run("(1; NONE if there is none)");
        run.due("bcb", "insert(0)", 3);
        for (String text : new String[] {"a", "ba", "bcbb", "bcb\0", "bd", "cc", "d", "\0",
            "\uffff"}) {
            run.due(text, "locate(1)", -1);
            run.tapeIs("");
        }
    }

    private static void leastSuffixOfTheEmptyOne() {
        Run run = new Run("(The empty one stands at each character.)");
        run.due("", "locate(1)", -1);
        run.due("b", "insert(0)", 1);
        run.due("", "locate(1)", 0);
        run.due("a", "insert(1)", 2);
        run.due("", "locate(1)", 0);
        run.due("delete(0, 2)", 0);
        run.due("", "locate(1)", -1);
    }

    private static void leastSuffixOfAll() {
        Run run = new Run(LEAST);
        run.fillText(EIGHT);
        for (int letter = 0; letter < 8; letter++) {
            run.due(EIGHT.substring(letter), "locate(1)", 15 * letter);
        }
        run.due("ha", "locate(1)", 106);
        run.due("habcdefg", "locate(1)", 106);
        run.due("hb", "locate(1)", -1);
    }

    private static void anotherWhatLeavesTheTape() {
        Run run = new Run("NONE for another what, which leaves the tape.");
        run.due("ab", "insert(0)", 2);
        run.tape(EIGHT);
        run.due("locate(-1)", -1);
        run.due("locate(2)", -1);
        for (String what : Run.FAR) {
            run.due("locate(" + what + ")", -1);
        }
        run.tapeIs(EIGHT);
    }

    private static void locateUsesTheTape() {
        Run run = new Run("the tape's text (USED) stands");
        for (int length = 0; length <= 2; length += 2) {
            run.due(EIGHT, "locate(0)", 0);
            run.tapeIs("");
            run.due(EIGHT, "locate(1)", -1);
            run.tapeIs("");
            run.due("ab", "insert(0)", length + 2);
            run.due("b", "locate(1)", length == 0 ? 1 : 2);
            run.tapeIs("");
        }
    }

    private static void locateFollowsEdits() {
        Run run = new Run(LEAST);
        run.due("ab", "insert(0)", 2);
        run.due("b", "locate(1)", 1);
        run.due("a", "insert(0)", 3);
        run.due("b", "locate(1)", 2);
        run.due("undo()", 2);
        run.due("b", "locate(1)", 1);
        run.due("delete(0, 1)", 1);
        run.due("b", "locate(1)", 0);
        run.due("b", "locate(0)", 1);
        run.due("delete(0, 1)", 0);
        run.due("b", "locate(0)", 0);
        run.due("b", "locate(1)", -1);
    }
}
