import java.util.NoSuchElementException;

/**
 * Collections with texts as keys: three sorted maps, live views of them, iterators that notice
 * what others do, patterns, the least automaton of a set of keys, and a text with its sorted
 * suffixes that is edited and taken back.
 *
 * <p>Rows are made once, with the object, and used again: of the calls only view() makes anything
 * that is kept, so that a long run stays small.
 */
public final class KeyHall {
    public static final int NONE = -1;

    private static final int LONGEST_KEY = 8;
    private static final int MOST_KEYS = 64;
    private static final int MOST_TYPED = 4;
    private static final int CHARACTER_BITS = 16;
    private static final int CHARACTER_MASK = 0xFFFF;
    private static final int BYTE_BITS = 8;

    private static final int MAPS = 3;
    private static final int MOST_VIEWS = 12;
    private static final int SORT_BEGINNING = 0;
    private static final int SORT_LESS = 1;
    private static final int SORT_NOT_LESS = 2;
    private static final int SORT_TURNED = 3;
    /** The sort of views 0, 1, 2, which are made of no other view. */
    private static final int SORT_WHOLE = 4;

    private static final int LAST_NOT_BEHIND = 0;
    private static final int LAST_BEFORE = 1;
    private static final int FIRST_NOT_BEFORE = 2;
    private static final int FIRST_BEHIND = 3;
    private static final int FIRST_OF_ALL = 4;
    private static final int LAST_OF_ALL = 5;
    private static final int LONGEST_START = 6;

    private static final int WILDCARD = 63;

    private static final int MAP_OF_DEPTHS = 0;
    private static final int MAP_OF_INNER_TEXTS = 1;
    private static final int DEPTH = 5;
    /** By what edges() is asked for: the least and the greatest fan that counts. */
    private static final int[] LEAST_FAN = {0, 0, 5, 17, 49};
    private static final int[] MOST_FAN = {256, 4, 16, 48, 256};
    /** A bit that tells that a character comes goes ahead of its own bits. */
    private static final int PLACES_A_CHARACTER = 17;

    /** The empty text, and each key's others. */
    private static final int MOST_PREFIXES = 513;

    private static final int LONGEST_TEXT = 120;
    private static final int MOST_UNDOS = 20;
    private static final int LENGTH = -1;
    private static final int HASH = -2;

    private final Key tape;
    /** What the call that runs has taken from the tape. */
    private final Key used;
    private final Key told;
    private final View[] views;
    private int viewCount;
    private final Edges branches;
    private final Automaton frozen;
    private final EditedText text;

    public KeyHall() {
        tape = new Key();
        used = new Key();
        told = new Key();
        views = new View[MOST_VIEWS];
        for (int i = 0; i < MAPS; i++) {
            views[i] = new View(new KeyMap());
        }
        viewCount = MAPS;
        branches = new Edges();
        frozen = new Automaton();
        text = new EditedText();
    }

    public boolean type(long characters, int n) {
        if (n < 1 || n > MOST_TYPED || tape.length + n > LONGEST_KEY) {
            return false;
        }
        for (int i = n - 1; i >= 0; i--) {
            tape.append((int) (characters >>> (CHARACTER_BITS * i)) & CHARACTER_MASK);
        }
        return true;
    }

    public int view(int of, int sort) throws IndexOutOfBoundsException {
        View origin = viewNumbered(of);
        if (sort < SORT_BEGINNING || sort > SORT_TURNED) {
            throw new IndexOutOfBoundsException();
        }
        useTape();
        if (viewCount >= MOST_VIEWS) {
            return NONE;
        }
        views[viewCount] = new View(origin, sort, used);
        viewCount++;
        return viewCount - 1;
    }

    public int put(int view, int value)
            throws IndexOutOfBoundsException, IllegalArgumentException, IllegalStateException {
        View in = viewNumbered(view);
        useTape();
        if (value < 0 || !in.admits(used)) {
            throw new IllegalArgumentException();
        }
        KeyMap map = in.map;
        int place = map.placeOf(used);
        if (place != NONE) {
            int before = map.values[place];
            map.values[place] = value;
            return before;
        }
        if (map.count >= MOST_KEYS) {
            throw new IllegalStateException();
        }
        map.add(used, value);
        return NONE;
    }

    public int get(int view) throws IndexOutOfBoundsException {
        View in = viewNumbered(view);
        useTape();
        int place = in.placeOf(used);
        return place == NONE ? NONE : in.map.values[place];
    }

    public int remove(int view) throws IndexOutOfBoundsException {
        View in = viewNumbered(view);
        useTape();
        int place = in.placeOf(used);
        return place == NONE ? NONE : in.map.takeOut(place);
    }

    public int size(int view) {
        return isView(view) ? measured(view).count() : NONE;
    }

    public int find(int view, int how) throws IndexOutOfBoundsException, NoSuchElementException {
        View in = measured(view);
        if (how < LAST_NOT_BEHIND || how > LONGEST_START) {
            throw new IndexOutOfBoundsException();
        }
        useTape();
        return tell(in, in.rankBy(how, used));
    }

    public int at(int view, int k) throws IndexOutOfBoundsException, NoSuchElementException {
        return tell(measured(view), k);
    }

    public int poll(int view, boolean last)
            throws IndexOutOfBoundsException, NoSuchElementException {
        View in = measured(view);
        int rank = last ? in.count() - 1 : 0;
        tell(in, rank);
        return in.map.takeOut(in.placeRanked(rank));
    }

    public int found(int i) {
        if (i == LENGTH) {
            return told.length;
        }
        return i >= 0 && i < told.length ? told.letters[i] : NONE;
    }

    public boolean iterate(int view) {
        if (!isView(view)) {
            return false;
        }
        View of = views[view];
        of.walker.begin(of.map.changes);
        return true;
    }

    public int next(int view)
            throws IndexOutOfBoundsException, IllegalStateException, NoSuchElementException {
        View in = measured(view);
        if (!in.walker.mayGoOn(in.map.changes)) {
            throw new IllegalStateException();
        }
        int value = tell(in, in.walker.behind);
        in.walker.step();
        return value;
    }

    public int drop(int view) throws IndexOutOfBoundsException, IllegalStateException {
        View in = measured(view);
        Walker walker = in.walker;
        if (!walker.mayGoOn(in.map.changes) || !walker.hasTold) {
            throw new IllegalStateException();
        }
        int value = in.map.takeOut(in.placeRanked(walker.behind - 1));
        walker.stepBack(in.map.changes);
        return value;
    }

    public int match(int view, int d) throws IndexOutOfBoundsException, IllegalArgumentException {
        View in = measured(view);
        useTape();
        if (d < 0) {
            throw new IllegalArgumentException();
        }
        int matches = 0;
        for (int i = in.from; i < in.to; i++) {
            if (used.matches(in.map.keys[i], d)) {
                matches++;
            }
        }
        return matches;
    }

    public int edges(int what) throws IndexOutOfBoundsException {
        if (what < 0 || what > DEPTH) {
            throw new IndexOutOfBoundsException();
        }
        if (what != DEPTH) {
            KeyMap map = views[MAP_OF_INNER_TEXTS].map;
            return branches.countInner(map, LEAST_FAN[what], MOST_FAN[what]);
        }
        useTape();
        KeyMap map = views[MAP_OF_DEPTHS].map;
        int place = map.placeOf(used);
        return place == NONE ? NONE : branches.depth(map, place);
    }

    public int freeze(int view) throws IndexOutOfBoundsException {
        frozen.become(measured(view));
        return frozen.states;
    }

    public int automaton(int what) {
        switch (what) {
            case 0:
                return frozen.states;
            case 1:
                return frozen.steps;
            case 2:
                return frozen.finals;
            case 3:
                useTape();
                return frozen.reach(used);
            case 4:
                useTape();
                return frozen.accepts(used) ? 1 : 0;
            default:
                return NONE;
        }
    }

    public int insert(int i) throws IndexOutOfBoundsException, IllegalStateException {
        if (i < 0 || i > text.length) {
            throw new IndexOutOfBoundsException();
        }
        useTape();
        if (text.length + used.length > LONGEST_TEXT) {
            throw new IllegalStateException();
        }
        text.open(i, used);
        return text.length;
    }

    public int delete(int i, int k) throws IndexOutOfBoundsException {
        if (i < 0 || i > k || k > text.length) {
            throw new IndexOutOfBoundsException();
        }
        text.close(i, k);
        return text.length;
    }

    public int undo() {
        return text.takeBack() ? text.length : NONE;
    }

    public int letter(int i) {
        if (i == LENGTH) {
            return text.length;
        }
        if (i == HASH) {
            return text.hash();
        }
        return i >= 0 && i < text.length ? text.letters[i] : NONE;
    }

    public int suffix(int k, int what) {
        if (k < 0 || k >= text.length) {
            return NONE;
        }
        switch (what) {
            case 0:
                return text.sortedSuffixes().starts[k];
            case 1:
                return text.sharedWithSuffixBefore(k);
            default:
                return NONE;
        }
    }

    public int locate(int what) {
        switch (what) {
            case 0:
                useTape();
                return text.countPlaces(used);
            case 1:
                useTape();
                return text.leastSuffixBeginning(used);
            default:
                return NONE;
        }
    }

    private void useTape() {
        used.become(tape);
        tape.clear();
    }

    private boolean isView(int number) {
        return number >= 0 && number < viewCount;
    }

    private View viewNumbered(int number) {
        if (!isView(number)) {
            throw new IndexOutOfBoundsException();
        }
        return views[number];
    }

    private View measured(int number) {
        View view = viewNumbered(number);
        view.measure();
        return view;
    }

    /** Makes key number rank of a measured view FOUND, and answers its value. */
    private int tell(View in, int rank) {
        if (rank < 0 || rank >= in.count()) {
            throw new NoSuchElementException();
        }
        int place = in.placeRanked(rank);
        told.become(in.map.keys[place]);
        return in.map.values[place];
    }

    /** A text of at most eight characters. */
    private static final class Key {
        final int[] letters;
        int length;

        Key() {
            letters = new int[LONGEST_KEY];
        }

        void clear() {
            length = 0;
        }

        void append(int letter) {
            if (length < LONGEST_KEY) {
                letters[length] = letter;
                length++;
            }
        }

        void become(Key other) {
            System.arraycopy(other.letters, 0, letters, 0, other.length);
            length = other.length;
        }

        /** How many characters both have in common, from their first on. */
        int shared(Key other) {
            int i = 0;
            while (i < length && i < other.length && letters[i] == other.letters[i]) {
                i++;
            }
            return i;
        }

        /** Below 0 if this one is before the other by ORDER, 0 if they are the same, else above. */
        int order(Key other) {
            int i = shared(other);
            if (i == length || i == other.length) {
                return length - other.length;
            }
            return letters[i] - other.letters[i];
        }

        boolean beginsWith(Key start) {
            return shared(start) == start.length;
        }

        boolean hasTail(int from, Key other, int otherFrom) {
            if (length - from != other.length - otherFrom) {
                return false;
            }
            for (int i = from; i < length; i++) {
                if (letters[i] != other.letters[i - from + otherFrom]) {
                    return false;
                }
            }
            return true;
        }

        /** Whether a key is as long as this pattern and differs from it in few enough places. */
        boolean matches(Key key, int most) {
            if (key.length != length) {
                return false;
            }
            int differing = 0;
            for (int i = 0; i < length; i++) {
                if (letters[i] != WILDCARD && letters[i] != key.letters[i]) {
                    differing++;
                }
            }
            return differing <= most;
        }
    }

    /** Keys in ORDER with their values. */
    private static final class KeyMap {
        final Key[] keys;
        final int[] values;
        int count;
        /** How often a key has come or gone, so that an iterator can notice it. */
        int changes;

        KeyMap() {
            keys = new Key[MOST_KEYS];
            for (int i = 0; i < MOST_KEYS; i++) {
                keys[i] = new Key();
            }
            values = new int[MOST_KEYS];
        }

        int countLess(Key key) {
            int less = 0;
            while (less < count && keys[less].order(key) < 0) {
                less++;
            }
            return less;
        }

        int placeOf(Key key) {
            int place = countLess(key);
            return place < count && keys[place].order(key) == 0 ? place : NONE;
        }

        /** Adds a key that is not there, to a map that is not full. */
        void add(Key key, int value) {
            int place = countLess(key);
            // The object behind the last key is free: moving it in saves making a new one.
            Key spare = keys[count];
            for (int i = count; i > place; i--) {
                keys[i] = keys[i - 1];
                values[i] = values[i - 1];
            }
            spare.become(key);
            keys[place] = spare;
            values[place] = value;
            count++;
            changes++;
        }

        int takeOut(int place) {
            Key spare = keys[place];
            int value = values[place];
            for (int i = place; i < count - 1; i++) {
                keys[i] = keys[i + 1];
                values[i] = values[i + 1];
            }
            keys[count - 1] = spare;
            count--;
            changes++;
            return value;
        }
    }

    /** The keys of a map that are in a range, in ORDER or the other way. */
    private static final class View {
        final KeyMap map;
        /** The view that this one is made of; null for a whole map. */
        final View origin;
        final int sort;
        final Key bound;
        final boolean turned;
        final Walker walker;
        /** Where the view's keys begin in the map, and where they ended, when last measured. */
        int from;
        int to;

        View(KeyMap whole) {
            map = whole;
            origin = null;
            sort = SORT_WHOLE;
            bound = new Key();
            turned = false;
            walker = new Walker();
        }

        View(View of, int sortOfPart, Key text) {
            map = of.map;
            origin = of;
            sort = sortOfPart;
            bound = new Key();
            bound.become(text);
            turned = (sortOfPart == SORT_TURNED) != of.turned;
            walker = new Walker();
        }

        boolean admits(Key key) {
            for (View part = this; part != null; part = part.origin) {
                if (!part.bounds(key)) {
                    return false;
                }
            }
            return true;
        }

        /** Whether a key meets this view's own condition, whatever its origin asks. */
        boolean bounds(Key key) {
            switch (sort) {
                case SORT_BEGINNING:
                    return key.beginsWith(bound);
                case SORT_LESS:
                    return key.order(bound) < 0;
                case SORT_NOT_LESS:
                    return key.order(bound) >= 0;
                default:
                    return true;
            }
        }

        /** Every condition holds for neighbours by ORDER, so the view's keys stand together. */
        void measure() {
            from = 0;
            while (from < map.count && !admits(map.keys[from])) {
                from++;
            }
            to = map.count;
            while (to > from && !admits(map.keys[to - 1])) {
                to--;
            }
        }

        int count() {
            return to - from;
        }

        int placeRanked(int rank) {
            return turned ? to - 1 - rank : from + rank;
        }

        int placeOf(Key key) {
            return admits(key) ? map.placeOf(key) : NONE;
        }

        /** The number of the key that find() is asked for; outside 0 .. count() - 1 if none is. */
        int rankBy(int how, Key text) {
            switch (how) {
                case LAST_NOT_BEHIND:
                    return countBefore(text, true) - 1;
                case LAST_BEFORE:
                    return countBefore(text, false) - 1;
                case FIRST_NOT_BEFORE:
                    return countBefore(text, false);
                case FIRST_BEHIND:
                    return countBefore(text, true);
                case FIRST_OF_ALL:
                    return 0;
                case LAST_OF_ALL:
                    return count() - 1;
                default:
                    return rankOfLongestStart(text);
            }
        }

        int countBefore(Key text, boolean andSame) {
            int before = 0;
            for (int i = from; i < to; i++) {
                Key key = map.keys[i];
                int order = turned ? text.order(key) : key.order(text);
                if (order < 0 || (andSame && order == 0)) {
                    before++;
                }
            }
            return before;
        }

        int rankOfLongestStart(Key text) {
            int rank = NONE;
            int longest = NONE;
            for (int k = 0; k < count(); k++) {
                Key key = map.keys[placeRanked(k)];
                if (key.length > longest && text.beginsWith(key)) {
                    longest = key.length;
                    rank = k;
                }
            }
            return rank;
        }
    }

    /** The iterator of a view. */
    private static final class Walker {
        boolean begun;
        /** How many of the view's keys it has behind it. */
        int behind;
        /** Whether the key just behind it was told, and so can be dropped. */
        boolean hasTold;
        int changesKnown;

        void begin(int changes) {
            begun = true;
            behind = 0;
            hasTold = false;
            changesKnown = changes;
        }

        boolean mayGoOn(int changes) {
            return begun && changes == changesKnown;
        }

        void step() {
            behind++;
            hasTold = true;
        }

        void stepBack(int changes) {
            behind--;
            hasTold = false;
            changesKnown = changes;
        }
    }

    /** What tells the keys of a map from one another, as bytes and as bits. */
    private static final class Edges {
        /** How many bytes each key has in common with the one behind it. */
        final int[] sharedBytes;
        final boolean[] differsAt;

        Edges() {
            sharedBytes = new int[MOST_KEYS];
            differsAt = new boolean[LONGEST_KEY * PLACES_A_CHARACTER];
        }

        /**
         * An INNER text is what two keys have in common and no more; of sorted keys each one is
         * what two neighbours have in common.
         */
        int countInner(KeyMap map, int leastFan, int mostFan) {
            int pairs = map.count - 1;
            for (int i = 0; i < pairs; i++) {
                sharedBytes[i] = countSharedBytes(map.keys[i], map.keys[i + 1]);
            }
            int inner = 0;
            for (int i = 0; i < pairs; i++) {
                if (isNewText(i)) {
                    int fan = fan(i, pairs, map.keys[i]);
                    if (fan >= leastFan && fan <= mostFan) {
                        inner++;
                    }
                }
            }
            return inner;
        }

        int countSharedBytes(Key one, Key other) {
            int characters = one.shared(other);
            if (characters == one.length || characters == other.length) {
                return 2 * characters;
            }
            boolean sameHigh = one.letters[characters] >> BYTE_BITS
                    == other.letters[characters] >> BYTE_BITS;
            return 2 * characters + (sameHigh ? 1 : 0);
        }

        /** Whether no pair ahead of this one has the very same text in common. */
        boolean isNewText(int pair) {
            for (int i = pair - 1; i >= 0 && sharedBytes[i] >= sharedBytes[pair]; i--) {
                if (sharedBytes[i] == sharedBytes[pair]) {
                    return false;
                }
            }
            return true;
        }

        /** The FAN of what the first pair with it has in common, by the first key of that pair. */
        int fan(int pair, int pairs, Key first) {
            int length = sharedBytes[pair];
            // A key that is the text itself has no byte behind it.
            int fan = 2 * first.length == length ? 0 : 1;
            for (int i = pair; i < pairs && sharedBytes[i] >= length; i++) {
                if (sharedBytes[i] == length) {
                    fan++;
                }
            }
            return fan;
        }

        int depth(KeyMap map, int place) {
            for (int i = 0; i < differsAt.length; i++) {
                differsAt[i] = false;
            }
            int depth = 0;
            for (int i = 0; i < map.count; i++) {
                if (i != place) {
                    int bit = firstDifferentBit(map.keys[place], map.keys[i]);
                    depth += differsAt[bit] ? 0 : 1;
                    differsAt[bit] = true;
                }
            }
            return depth;
        }

        /** Of two different keys. */
        int firstDifferentBit(Key one, Key other) {
            int characters = one.shared(other);
            int bit = characters * PLACES_A_CHARACTER;
            if (characters == one.length || characters == other.length) {
                return bit;
            }
            int differing = one.letters[characters] ^ other.letters[characters];
            int shift = CHARACTER_BITS - 1;
            while (shift > 0 && (differing >> shift) == 0) {
                shift--;
            }
            return bit + CHARACTER_BITS - shift;
        }
    }

    /**
     * The least automaton of the keys that a view had. It is kept as those keys: what it can go
     * and where it is FINAL is told by them, and its states are counted when it is made.
     */
    private static final class Automaton {
        final Key[] keys;
        int count;
        /** Of each text with which keys begin: the first such key, the end of them, its length. */
        final int[] prefixFrom;
        final int[] prefixTo;
        final int[] prefixLength;
        /** How many characters the longest text has that leads from there to a key. */
        final int[] prefixHeight;
        int prefixes;
        /** One of the texts that are the state. */
        final int[] stateText;
        int states;
        int steps;
        int finals;

        Automaton() {
            keys = new Key[MOST_KEYS];
            for (int i = 0; i < MOST_KEYS; i++) {
                keys[i] = new Key();
            }
            prefixFrom = new int[MOST_PREFIXES];
            prefixTo = new int[MOST_PREFIXES];
            prefixLength = new int[MOST_PREFIXES];
            prefixHeight = new int[MOST_PREFIXES];
            stateText = new int[MOST_PREFIXES];
        }

        /** Of a measured view. */
        void become(View view) {
            count = view.count();
            for (int i = 0; i < count; i++) {
                keys[i].become(view.map.keys[view.from + i]);
            }
            listPrefixes();
            countStates();
        }

        void listPrefixes() {
            prefixes = 0;
            for (int i = 0; i < count; i++) {
                // The key ahead of this one begins with the shorter ones, too.
                int shortest = i == 0 ? 0 : keys[i].shared(keys[i - 1]) + 1;
                for (int length = shortest; length <= keys[i].length; length++) {
                    addPrefix(i, length);
                }
            }
        }

        void addPrefix(int from, int length) {
            int to = from;
            int longest = length;
            while (to < count && keys[to].shared(keys[from]) >= length) {
                longest = Math.max(longest, keys[to].length);
                to++;
            }
            prefixFrom[prefixes] = from;
            prefixTo[prefixes] = to;
            prefixLength[prefixes] = length;
            prefixHeight[prefixes] = longest - length;
            prefixes++;
        }

        /** Texts of one state have one height: going by height keeps the comparisons few. */
        void countStates() {
            states = 0;
            steps = 0;
            finals = 0;
            for (int height = 0; height <= LONGEST_KEY; height++) {
                int firstOfHeight = states;
                for (int prefix = 0; prefix < prefixes; prefix++) {
                    if (prefixHeight[prefix] == height && !isKnown(prefix, firstOfHeight)) {
                        addState(prefix);
                    }
                }
            }
        }

        boolean isKnown(int prefix, int firstState) {
            for (int state = firstState; state < states; state++) {
                if (leadAlike(prefix, stateText[state])) {
                    return true;
                }
            }
            return false;
        }

        /** Whether the same texts lead to keys behind both; those of sorted keys are sorted. */
        boolean leadAlike(int prefix, int other) {
            int size = prefixTo[prefix] - prefixFrom[prefix];
            if (size != prefixTo[other] - prefixFrom[other]) {
                return false;
            }
            for (int i = 0; i < size; i++) {
                Key key = keys[prefixFrom[prefix] + i];
                Key otherKey = keys[prefixFrom[other] + i];
                if (!key.hasTail(prefixLength[prefix], otherKey, prefixLength[other])) {
                    return false;
                }
            }
            return true;
        }

        void addState(int prefix) {
            stateText[states] = prefix;
            states++;
            steps += countFollowing(prefix);
            if (keys[prefixFrom[prefix]].length == prefixLength[prefix]) {
                finals++;
            }
        }

        int countFollowing(int prefix) {
            int length = prefixLength[prefix];
            int following = 0;
            int latest = NONE;
            for (int i = prefixFrom[prefix]; i < prefixTo[prefix]; i++) {
                if (keys[i].length > length && keys[i].letters[length] != latest) {
                    latest = keys[i].letters[length];
                    following++;
                }
            }
            return following;
        }

        int reach(Key text) {
            int reach = NONE;
            for (int i = 0; i < count; i++) {
                reach = Math.max(reach, keys[i].shared(text));
            }
            return reach;
        }

        boolean accepts(Key text) {
            for (int i = 0; i < count; i++) {
                if (keys[i].order(text) == 0) {
                    return true;
                }
            }
            return false;
        }
    }

    /** A text that is edited, its edits taken back, and its suffixes sorted when asked for. */
    private static final class EditedText {
        final int[] letters;
        int length;
        final History history;
        final SuffixOrder suffixes;
        boolean suffixesAreSorted;

        EditedText() {
            letters = new int[LONGEST_TEXT];
            history = new History();
            suffixes = new SuffixOrder();
        }

        void open(int place, Key key) {
            history.keep(letters, length);
            System.arraycopy(letters, place, letters, place + key.length, length - place);
            System.arraycopy(key.letters, 0, letters, place, key.length);
            length += key.length;
            suffixesAreSorted = false;
        }

        void close(int from, int to) {
            history.keep(letters, length);
            System.arraycopy(letters, to, letters, from, length - to);
            length -= to - from;
            suffixesAreSorted = false;
        }

        boolean takeBack() {
            if (history.kept == 0) {
                return false;
            }
            length = history.giveBack(letters);
            suffixesAreSorted = false;
            return true;
        }

        int hash() {
            int hash = 0;
            for (int i = 0; i < length; i++) {
                hash = 31 * hash + letters[i];
            }
            return hash;
        }

        SuffixOrder sortedSuffixes() {
            if (!suffixesAreSorted) {
                suffixes.sort(letters, length);
                suffixesAreSorted = true;
            }
            return suffixes;
        }

        int sharedWithSuffixBefore(int k) {
            if (k == 0) {
                return 0;
            }
            int[] starts = sortedSuffixes().starts;
            int one = starts[k];
            int other = starts[k - 1];
            int shared = 0;
            while (one + shared < length && other + shared < length
                    && letters[one + shared] == letters[other + shared]) {
                shared++;
            }
            return shared;
        }

        boolean standsAt(int place, Key key) {
            if (key.length > length - place) {
                return false;
            }
            for (int i = 0; i < key.length; i++) {
                if (letters[place + i] != key.letters[i]) {
                    return false;
                }
            }
            return true;
        }

        int countPlaces(Key key) {
            int places = 0;
            for (int i = 0; i < length; i++) {
                if (standsAt(i, key)) {
                    places++;
                }
            }
            return places;
        }

        int leastSuffixBeginning(Key key) {
            int[] starts = sortedSuffixes().starts;
            for (int k = 0; k < length; k++) {
                if (standsAt(starts[k], key)) {
                    return k;
                }
            }
            return NONE;
        }
    }

    /** What a text was ahead of its latest edits, in a ring: the newest takes the oldest's row. */
    private static final class History {
        final int[] letters;
        final int[] lengths;
        int newest;
        int kept;

        History() {
            letters = new int[MOST_UNDOS * LONGEST_TEXT];
            lengths = new int[MOST_UNDOS];
        }

        void keep(int[] current, int length) {
            newest = newest + 1 < MOST_UNDOS ? newest + 1 : 0;
            System.arraycopy(current, 0, letters, newest * LONGEST_TEXT, length);
            lengths[newest] = length;
            kept = Math.min(kept + 1, MOST_UNDOS);
        }

        /** Writes the newest text that is kept over the current one, and answers its length. */
        int giveBack(int[] current) {
            int length = lengths[newest];
            System.arraycopy(letters, newest * LONGEST_TEXT, current, 0, length);
            newest = newest > 0 ? newest - 1 : MOST_UNDOS - 1;
            kept--;
            return length;
        }
    }

    /** Where the suffixes of a text begin, by ORDER. */
    private static final class SuffixOrder {
        final int[] starts;
        /** The number of the suffix that begins at a place, among those sorted so far. */
        final int[] ranks;

        SuffixOrder() {
            starts = new int[LONGEST_TEXT];
            ranks = new int[LONGEST_TEXT + 1];
        }

        /** From the shortest suffix on: what is behind a first character is sorted already. */
        void sort(int[] letters, int length) {
            // The empty rest behind the last character is before all suffixes.
            ranks[length] = NONE;
            for (int start = length - 1; start >= 0; start--) {
                int rank = length - 1 - start;
                while (rank > 0 && isLess(letters, start, starts[rank - 1])) {
                    starts[rank] = starts[rank - 1];
                    ranks[starts[rank]] = rank;
                    rank--;
                }
                starts[rank] = start;
                ranks[start] = rank;
            }
        }

        boolean isLess(int[] letters, int one, int other) {
            if (letters[one] != letters[other]) {
                return letters[one] < letters[other];
            }
            return ranks[one + 1] < ranks[other + 1];
        }
    }
}
