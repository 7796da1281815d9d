import java.util.ArrayDeque;
import java.util.ArrayList;
import java.util.Collections;
import java.util.Deque;
import java.util.HashMap;
import java.util.HashSet;
import java.util.List;
import java.util.Map;
import java.util.NoSuchElementException;
import java.util.Set;
import java.util.TreeMap;
import java.util.TreeSet;

/**
 * The document's words put down with the Java library, as near to them as can be and with no
 * thought of speed, for ModelTest to compare KeyHall with. Strings are compared as by ORDER.
 */
final class Model {
    private static final int NONE = -1;

    private final List<TreeMap<String, Integer>> maps =
            List.of(new TreeMap<>(), new TreeMap<>(), new TreeMap<>());
    private final List<Part> views = new ArrayList<>();
    private String tape = "";
    private String found = "";
    private Set<String> frozen = new TreeSet<>();
    private String text = "";
    private final Deque<String> past = new ArrayDeque<>();

    /** A view, and its iterator: the keys it has yet to tell, null if it must not go on. */
    private static final class Part {
        int map;
        Part of;
        int sort = 3;
        String bound = "";
        boolean turned;
        Deque<String> ahead;
        String told;

        boolean has(String key) {
            boolean here = sort == 0 ? key.startsWith(bound)
                    : sort == 1 ? key.compareTo(bound) < 0
                    : sort == 3 || key.compareTo(bound) >= 0;
            return here && (of == null || of.has(key));
        }
    }

    Model() {
        for (int map = 0; map < 3; map++) {
            Part whole = new Part();
            whole.map = map;
            views.add(whole);
        }
    }

    boolean type(long characters, int n) {
        if (n < 1 || n > 4 || tape.length() + n > 8) {
            return false;
        }
        for (int i = n - 1; i >= 0; i--) {
            tape += (char) (characters >> 16 * i);
        }
        return true;
    }

    int view(int of, int sort) {
        Part origin = part(of);
        bound(sort >= 0 && sort <= 3);
        String bound = use();
        if (views.size() == 12) {
            return NONE;
        }
        Part made = new Part();
        made.map = origin.map;
        made.of = origin;
        made.sort = sort;
        made.bound = bound;
        made.turned = origin.turned ^ sort == 3;
        views.add(made);
        return views.size() - 1;
    }

    int put(int view, int value) {
        Part part = part(view);
        String key = use();
        if (value < 0 || !part.has(key)) {
            throw new IllegalArgumentException();
        }
        Map<String, Integer> map = maps.get(part.map);
        if (map.containsKey(key)) {
            return map.put(key, value);
        }
        if (map.size() == 64) {
            throw new IllegalStateException();
        }
        map.put(key, value);
        stopIterators(part.map, null);
        return NONE;
    }

    int get(int view) {
        Part part = part(view);
        String key = use();
        return keys(part).contains(key) ? value(part, key) : NONE;
    }

    int remove(int view) {
        Part part = part(view);
        String key = use();
        return keys(part).contains(key) ? takeOut(part, key, null) : NONE;
    }

    int size(int view) {
        return view < 0 || view >= views.size() ? NONE : keys(views.get(view)).size();
    }

    int find(int view, int how) {
        Part part = part(view);
        bound(how >= 0 && how <= 6);
        String t = use();
        List<String> hits = new ArrayList<>();
        for (String key : keys(part)) {
            int order = part.turned ? t.compareTo(key) : key.compareTo(t);
            boolean hit = how == 0 ? order <= 0 : how == 1 ? order < 0 : how == 2 ? order >= 0
                    : how == 3 ? order > 0 : how == 6 ? t.startsWith(key) : true;
            if (hit) {
                hits.add(key);
            }
        }
        if (hits.isEmpty()) {
            throw new NoSuchElementException();
        }
        if (how == 6) {
            hits.sort((one, other) -> one.length() - other.length());
        }
        boolean first = how == 2 || how == 3 || how == 4;
        return tell(part, hits.get(first ? 0 : hits.size() - 1));
    }

    int at(int view, int k) {
        Part part = part(view);
        List<String> keys = keys(part);
        if (k < 0 || k >= keys.size()) {
            throw new NoSuchElementException();
        }
        return tell(part, keys.get(k));
    }

    int poll(int view, boolean last) {
        Part part = part(view);
        List<String> keys = keys(part);
        if (keys.isEmpty()) {
            throw new NoSuchElementException();
        }
        String key = keys.get(last ? keys.size() - 1 : 0);
        tell(part, key);
        return takeOut(part, key, null);
    }

    int found(int i) {
        return i == -1 ? found.length() : i >= 0 && i < found.length() ? found.charAt(i) : NONE;
    }

    boolean iterate(int view) {
        if (view < 0 || view >= views.size()) {
            return false;
        }
        Part part = views.get(view);
        part.ahead = new ArrayDeque<>(keys(part));
        part.told = null;
        return true;
    }

    int next(int view) {
        Part part = part(view);
        if (part.ahead == null) {
            throw new IllegalStateException();
        }
        if (part.ahead.isEmpty()) {
            throw new NoSuchElementException();
        }
        part.told = part.ahead.removeFirst();
        return tell(part, part.told);
    }

    int drop(int view) {
        Part part = part(view);
        if (part.ahead == null || part.told == null) {
            throw new IllegalStateException();
        }
        String key = part.told;
        part.told = null;
        return takeOut(part, key, part);
    }

    int match(int view, int d) {
        Part part = part(view);
        String pattern = use();
        if (d < 0) {
            throw new IllegalArgumentException();
        }
        int matches = 0;
        for (String key : keys(part)) {
            long differing = 0;
            for (int i = 0; i < key.length() && i < pattern.length(); i++) {
                differing += pattern.charAt(i) == '?' || pattern.charAt(i) == key.charAt(i) ? 0 : 1;
            }
            matches += key.length() == pattern.length() && differing <= d ? 1 : 0;
        }
        return matches;
    }

    int edges(int what) {
        bound(what >= 0 && what <= 5);
        if (what == 5) {
            return depth(use());
        }
        int inner = 0;
        Set<String> keys = new HashSet<>();
        Map<String, Set<Character>> following = new HashMap<>();
        for (String key : maps.get(1).keySet()) {
            String bytes = bytes(key);
            keys.add(bytes);
            for (int i = 0; i < bytes.length(); i++) {
                following.computeIfAbsent(bytes.substring(0, i), start -> new HashSet<>())
                        .add(bytes.charAt(i));
            }
        }
        for (Map.Entry<String, Set<Character>> start : following.entrySet()) {
            int fan = start.getValue().size();
            if (fan >= 2 || keys.contains(start.getKey())) {
                int sort = fan <= 4 ? 1 : fan <= 16 ? 2 : fan <= 48 ? 3 : 4;
                inner += what == 0 || what == sort ? 1 : 0;
            }
        }
        return inner;
    }

    private static String bytes(String key) {
        StringBuilder bytes = new StringBuilder();
        for (char letter : key.toCharArray()) {
            bytes.append((char) (letter / 256)).append((char) (letter % 256));
        }
        return bytes.toString();
    }

    private int depth(String key) {
        if (!maps.get(0).containsKey(key)) {
            return NONE;
        }
        Set<Integer> places = new HashSet<>();
        String bits = bits(key);
        for (String other : maps.get(0).keySet()) {
            if (!other.equals(key)) {
                int place = 0;
                while (bits.charAt(place) == bits(other).charAt(place)) {
                    place++;
                }
                places.add(place);
            }
        }
        return places.size();
    }

    private static String bits(String key) {
        StringBuilder bits = new StringBuilder();
        for (char letter : key.toCharArray()) {
            // 1 and then 16 bits: 65536 is 1 and then sixteen times 0.
            bits.append(Integer.toBinaryString(65536 + letter));
        }
        return bits.append("0".repeat(17 * 9)).toString();
    }

    int freeze(int view) {
        frozen = new TreeSet<>(keys(part(view)));
        return automaton(0);
    }

    int automaton(int what) {
        switch (what) {
            case 0:
                return states().size();
            case 1:
                int steps = 0;
                for (Set<String> state : states()) {
                    steps += firsts(state).size();
                }
                return steps;
            case 2:
                int finals = 0;
                for (Set<String> state : states()) {
                    finals += state.contains("") ? 1 : 0;
                }
                return finals;
            case 3:
                return reach(use());
            case 4:
                return frozen.contains(use()) ? 1 : 0;
            default:
                return NONE;
        }
    }

    /** Each state is told by the texts that lead from it to keys. */
    private Set<Set<String>> states() {
        Set<Set<String>> states = new HashSet<>();
        for (String key : frozen) {
            for (int i = 0; i <= key.length(); i++) {
                states.add(behind(key.substring(0, i)));
            }
        }
        return states;
    }

    private Set<String> behind(String start) {
        Set<String> ends = new HashSet<>();
        for (String key : frozen) {
            if (key.startsWith(start)) {
                ends.add(key.substring(start.length()));
            }
        }
        return ends;
    }

    private static Set<Character> firsts(Set<String> texts) {
        Set<Character> firsts = new HashSet<>();
        for (String one : texts) {
            if (!one.isEmpty()) {
                firsts.add(one.charAt(0));
            }
        }
        return firsts;
    }

    private int reach(String t) {
        for (int i = t.length(); i >= 0; i--) {
            if (!behind(t.substring(0, i)).isEmpty()) {
                return i;
            }
        }
        return NONE;
    }

    int insert(int i) {
        bound(i >= 0 && i <= text.length());
        String added = use();
        if (text.length() + added.length() > 120) {
            throw new IllegalStateException();
        }
        return edit(text.substring(0, i) + added + text.substring(i));
    }

    int delete(int i, int k) {
        bound(0 <= i && i <= k && k <= text.length());
        return edit(text.substring(0, i) + text.substring(k));
    }

    private int edit(String edited) {
        past.addLast(text);
        if (past.size() > 20) {
            past.removeFirst();
        }
        text = edited;
        return text.length();
    }

    int undo() {
        if (past.isEmpty()) {
            return NONE;
        }
        text = past.removeLast();
        return text.length();
    }

    int letter(int i) {
        return i == -1 ? text.length() : i == -2 ? text.hashCode()
                : i >= 0 && i < text.length() ? text.charAt(i) : NONE;
    }

    private List<String> suffixes() {
        List<String> suffixes = new ArrayList<>();
        for (int i = 0; i < text.length(); i++) {
            suffixes.add(text.substring(i));
        }
        Collections.sort(suffixes);
        return suffixes;
    }

    int suffix(int k, int what) {
        if (k < 0 || k >= text.length() || what < 0 || what > 1) {
            return NONE;
        }
        String suffix = suffixes().get(k);
        if (what == 0) {
            return text.length() - suffix.length();
        }
        int shared = suffix.length();
        while (shared > 0 && (k == 0 || !suffixes().get(k - 1).startsWith(suffix.substring(0, shared)))) {
            shared--;
        }
        return shared;
    }

    int locate(int what) {
        if (what != 0 && what != 1) {
            return NONE;
        }
        String t = use();
        int places = 0;
        int least = NONE;
        List<String> suffixes = suffixes();
        for (int k = suffixes.size() - 1; k >= 0; k--) {
            if (suffixes.get(k).startsWith(t)) {
                places++;
                least = k;
            }
        }
        return what == 0 ? places : least;
    }

    private static void bound(boolean inside) {
        if (!inside) {
            throw new IndexOutOfBoundsException();
        }
    }

    private Part part(int view) {
        bound(view >= 0 && view < views.size());
        return views.get(view);
    }

    private String use() {
        String used = tape;
        tape = "";
        return used;
    }

    private List<String> keys(Part part) {
        List<String> keys = new ArrayList<>();
        for (String key : maps.get(part.map).keySet()) {
            if (part.has(key)) {
                keys.add(key);
            }
        }
        if (part.turned) {
            Collections.reverse(keys);
        }
        return keys;
    }

    private int value(Part part, String key) {
        return maps.get(part.map).get(key);
    }

    private int tell(Part part, String key) {
        found = key;
        return value(part, key);
    }

    private int takeOut(Part part, String key, Part by) {
        stopIterators(part.map, by);
        return maps.get(part.map).remove(key);
    }

    private void stopIterators(int map, Part but) {
        for (Part part : views) {
            if (part.map == map && part != but) {
                part.ahead = null;
            }
        }
    }
}
