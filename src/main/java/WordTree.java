import java.util.Arrays;

/**
 * A word tree: words put above and below one another by what texts show and
 * people say. The document's promises are told at the methods by their numbers.
 */
public final class WordTree {
    public static final int NONE = -1;

    private static final int NOTHING_DONE = -2;

    private static final int MOST_WORDS = 24;
    private static final int MOST_LETTERS = 8;
    private static final int MOST_BYTES = 200;
    private static final int MOST_TEXTS = 12;
    private static final int MOST_SAYINGS = 60;
    private static final int MOST_PERSON = 9;
    private static final int MOST_WEIGHT = 9;
    private static final int MOST_IN_SET = 6;
    private static final int FED_BYTES = 20;

    // A token takes one byte at least, and one more keeps it from the next.
    private static final int MOST_TOKENS = MOST_BYTES / 2;
    // The tightest row of signs, "x or y or z", takes five bytes for each.
    private static final int MOST_SIGNS = MOST_BYTES / 5;

    private static final int ABOVE = 0;
    private static final int PART = 1;
    private static final int ALIKE = 2;
    private static final int NOT = 3;
    private static final int LINK_KINDS = 3;
    private static final int PAIRS = MOST_WORDS * MOST_WORDS;

    private static final int FREE = 0;
    private static final int NO_WEIGHT = 1;
    private static final int HAS_PARENT = 2;
    private static final int RING = 3;
    private static final int BARRED = 4;

    // Up to eight letters fit into one long, a byte each, the first the highest.
    private static final long NO_PACK = -1L;
    private static final long SUCH = 0x73756368L;
    private static final long AS = 0x6173L;
    private static final long AND = 0x616e64L;
    private static final long OTHER = 0x6f74686572L;
    private static final long IS = 0x6973L;
    private static final long A = 0x61L;
    private static final long KIND = 0x6b696e64L;
    private static final long OF = 0x6f66L;
    private static final long PART_WORD = 0x70617274L;
    private static final long OR = 0x6f72L;
    private static final long[] SMALL_WORDS = {SUCH, AS, AND, OTHER, IS, A, KIND, OF, PART_WORD, OR};

    // What stands between X and Y: form f has those from FORM_STARTS[f] up to FORM_STARTS[f + 1].
    private static final int FORMS = 5;
    private static final long[] FORM_WORDS = {SUCH, AS, AND, OTHER, IS, A, KIND, OF, PART_WORD, OF, OR};
    private static final int[] FORM_STARTS = {0, 2, 4, 8, 10, 11};
    private static final int[] FORM_KINDS = {ABOVE, ABOVE, ABOVE, PART, ALIKE};
    private static final int[] FORM_WEIGHTS = {2, 2, 3, 1, 1};
    // 1: the link goes from Y to X.
    private static final int[] FORM_TURNS = {0, 1, 1, 0, 0};

    private final Tape tape;
    private final Words words;
    private final Reader reader;
    private final Evidence evidence;
    private final Tree tree;
    private final Picture picture;
    private final Search search;
    private boolean stale;

    /** Promise 1. */
    public WordTree() {
        tape = new Tape();
        words = new Words();
        reader = new Reader();
        evidence = new Evidence();
        tree = new Tree();
        picture = new Picture();
        search = new Search();
        stale = true;
    }

    /** Promise 2. */
    public int feed(int a, int b, int c, int d, int e) {
        if (tape.size + FED_BYTES > MOST_BYTES) {
            return NONE;
        }
        tape.put(a);
        tape.put(b);
        tape.put(c);
        tape.put(d);
        tape.put(e);
        return tape.size;
    }

    /** Promise 3. */
    public int text(int n) {
        int number = evidence.freeText();
        if (!tape.holds(n) || number == NONE) {
            return NONE;
        }
        reader.cut(tape, n);
        tape.size = 0;
        reader.findSigns(words, evidence.texts[number]);
        evidence.putText(number);
        stale = true;
        return number;
    }

    /** Promise 4. */
    public boolean back(int text) {
        if (!evidence.hasText(text)) {
            return false;
        }
        evidence.dropText(text);
        stale = true;
        return true;
    }

    /** Promise 5. */
    public int signs(int text) {
        return evidence.hasText(text) ? evidence.texts[text].size : NONE;
    }

    /** Promise 6. */
    public int word(int n) {
        if (!tape.holds(n)) {
            return NOTHING_DONE;
        }
        long pack = tape.packed(n);
        tape.size = 0;
        return mayBeWord(pack) ? words.bring(pack) : NONE;
    }

    /** Promise 7. */
    public int letter(int word, int i) {
        if (!words.has(word)) {
            return NONE;
        }
        return i == NONE ? words.lengthOf(word) : words.byteOf(word, i);
    }

    /** Promise 8. */
    public int say(int person, int kind, int x, int y, int weight) {
        boolean known = person >= 0 && person <= MOST_PERSON && kind >= 0 && kind <= NOT && words.areUnlike(x, y);
        boolean weighs = kind == NOT || weight >= 1 && weight <= MOST_WEIGHT;
        if (!known || !weighs || evidence.sayings.isFull()) {
            return NONE;
        }
        stale = true;
        return kind == NOT ? evidence.addNot(person, x, y) : evidence.addSaying(person, cellOf(kind, x, y), weight);
    }

    /** Promise 9. */
    public int weight(int kind, int x, int y) {
        return isLink(kind, x, y) ? evidence.weights[cellOf(kind, x, y)] : NONE;
    }

    /** Promise 10. */
    public int reason(int kind, int x, int y, int k, int what) {
        return isLink(kind, x, y) && k >= 0 ? evidence.tell(cellOf(kind, x, y), k, what) : NONE;
    }

    /** Promise 11. */
    public int parent(int word) {
        return words.has(word) ? currentTree().parents[word] : NONE;
    }

    /** Promise 12. */
    public int why(int x, int y) {
        return words.areUnlike(x, y) ? currentTree().bars[cellOf(ABOVE, x, y)] : NONE;
    }

    /** Promise 13. */
    public int above(int x, int y) {
        if (!words.has(x) || !words.has(y)) {
            return NONE;
        }
        return hasBit(currentTree().forest.aboves[y], x) ? 1 : 0;
    }

    /** Promise 14. */
    public int below(int word, int k) {
        if (!words.has(word)) {
            return NONE;
        }
        int lower = currentTree().forest.lowerThan(word);
        return k == NONE ? Integer.bitCount(lower) : bitNumber(lower, k);
    }

    /** Promise 15. */
    public int meets(int x, int y) {
        return words.has(x) && words.has(y) ? currentTree().meeting(x, y) : NONE;
    }

    /** Promise 16. */
    public int way(int x, int y) {
        return words.has(x) && words.has(y) ? currentTree().steps(x, y) : NONE;
    }

    /** Promise 17. */
    public int shared(int x, int y) {
        if (!words.has(x) || !words.has(y)) {
            return NONE;
        }
        int[] nears = currentTree().nears;
        return Integer.bitCount(nears[x] & nears[y]);
    }

    /** Promise 18. */
    public int senses(int word) {
        return words.has(word) ? currentTree().parts(word) : NONE;
    }

    /** Promise 19. */
    public int sum() {
        return currentTree().total;
    }

    /** Promise 20. */
    public int best(int set) {
        boolean others = (set & ~words.all()) != 0;
        if (others || Integer.bitCount(set) > MOST_IN_SET) {
            return NONE;
        }
        return search.greatestSum(set, evidence);
    }

    /** Promise 21. */
    public int keep() {
        picture.take(currentTree());
        return currentTree().links;
    }

    /** Promise 22. */
    public int over(int what) {
        return picture.kept ? picture.laidOver(currentTree(), what) : NONE;
    }

    /** Promise 23. */
    public int count(int what) {
        switch (what) {
            case 0:
                return words.size;
            case 1:
                return evidence.textsThere();
            case 2:
                return evidence.sayings.size;
            case 3:
                return tape.size;
            case 4:
                return currentTree().links;
            case 5:
                return currentTree().weighed;
            default:
                return NONE;
        }
    }

    private boolean isLink(int kind, int x, int y) {
        return kind >= 0 && kind < LINK_KINDS && words.areUnlike(x, y);
    }

    // The tree is built when it is asked for, not at each change: many changes may come in a row.
    private Tree currentTree() {
        if (stale) {
            tree.build(evidence.weights, evidence.banned);
            stale = false;
        }
        return tree;
    }

    // Alike words have one cell, whichever of them is named first.
    private static int cellOf(int kind, int x, int y) {
        boolean turned = kind == ALIKE && x > y;
        int first = turned ? y : x;
        int second = turned ? x : y;
        return kind * PAIRS + first * MOST_WORDS + second;
    }

    private static boolean hasBit(int bits, int i) {
        return (bits >>> i & 1) != 0;
    }

    private static int bitNumber(int bits, int k) {
        int left = k;
        for (int i = 0; i < MOST_WORDS; i++) {
            if (hasBit(bits, i)) {
                if (left == 0) {
                    return i;
                }
                left--;
            }
        }
        return NONE;
    }

    private static boolean isLetter(int b) {
        return b >= 'a' && b <= 'z';
    }

    private static boolean isBlank(int b) {
        return b == ' ' || b == '\n';
    }

    // A pack whose highest byte is taken has eight letters already.
    private static long grown(long pack, int b) {
        boolean full = pack >>> 8 * (MOST_LETTERS - 1) != 0;
        return full ? NO_PACK : pack << 8 | b;
    }

    private static boolean mayBeWord(long pack) {
        for (long small : SMALL_WORDS) {
            if (pack == small) {
                return false;
            }
        }
        return pack > 0;
    }

    /** The bytes that wait to become a text or a word. */
    private static final class Tape {
        final int[] bytes;
        int size;

        Tape() {
            bytes = new int[MOST_BYTES];
        }

        boolean holds(int n) {
            return n >= 0 && n <= size;
        }

        void put(int number) {
            for (int shift = 24; shift >= 0 && size < MOST_BYTES; shift -= 8) {
                bytes[size] = number >>> shift & 255;
                size++;
            }
        }

        long packed(int n) {
            long pack = 0;
            for (int i = 0; i < n && i < MOST_BYTES; i++) {
                if (!isLetter(bytes[i])) {
                    return NO_PACK;
                }
                pack = grown(pack, bytes[i]);
            }
            return pack;
        }
    }

    /** The words, numbered as they first come. */
    private static final class Words {
        final long[] packs;
        int size;

        Words() {
            packs = new long[MOST_WORDS];
        }

        boolean has(int number) {
            return number >= 0 && number < size;
        }

        boolean areUnlike(int x, int y) {
            return has(x) && has(y) && x != y;
        }

        int all() {
            return (1 << size) - 1;
        }

        int bring(long pack) {
            for (int i = 0; i < size; i++) {
                if (packs[i] == pack) {
                    return i;
                }
            }
            if (size >= MOST_WORDS) {
                return NONE;
            }
            packs[size] = pack;
            size++;
            return size - 1;
        }

        int lengthOf(int number) {
            int length = 0;
            for (int i = 0; i < MOST_LETTERS; i++) {
                if (packs[number] >>> 8 * i != 0) {
                    length++;
                }
            }
            return length;
        }

        int byteOf(int number, int i) {
            int length = lengthOf(number);
            if (i < 0 || i >= length) {
                return NONE;
            }
            return (int) (packs[number] >>> 8 * (length - 1 - i)) & 255;
        }
    }

    /** Cuts a text into tokens and finds its signs; its rows are used again for each text. */
    private static final class Reader {
        final long[] packs;
        final int[] places;
        // Whether a token follows the one before it.
        final boolean[] follows;
        int size;

        Reader() {
            packs = new long[MOST_TOKENS];
            places = new int[MOST_TOKENS];
            follows = new boolean[MOST_TOKENS];
        }

        void cut(Tape tape, int n) {
            size = 0;
            boolean inside = false;
            boolean parted = true;
            for (int i = 0; i < n && i < MOST_BYTES; i++) {
                int b = tape.bytes[i];
                if (isLetter(b)) {
                    if (!inside) {
                        open(i, !parted);
                    }
                    lengthen(b);
                    inside = true;
                    parted = false;
                } else {
                    inside = false;
                    parted = parted || !isBlank(b);
                }
            }
        }

        private void open(int place, boolean following) {
            if (size < MOST_TOKENS) {
                packs[size] = 0;
                places[size] = place;
                follows[size] = following;
                size++;
            }
        }

        private void lengthen(int b) {
            if (size > 0) {
                packs[size - 1] = grown(packs[size - 1], b);
            }
        }

        void findSigns(Words words, Grounds found) {
            for (int t = 0; t < size; t++) {
                for (int form = 0; form < FORMS && mayBeWord(packs[t]); form++) {
                    int end = endOf(form, t);
                    if (end != NONE) {
                        takeSign(form, t, end, words, found);
                    }
                }
            }
        }

        // The token that is Y, where the one at t is X of this form.
        private int endOf(int form, int t) {
            int start = FORM_STARTS[form];
            int end = t + 1 + FORM_STARTS[form + 1] - start;
            if (end >= size || !follows[end] || packs[end] == packs[t] || !mayBeWord(packs[end])) {
                return NONE;
            }
            for (int i = t + 1; i < end; i++) {
                if (!follows[i] || packs[i] != FORM_WORDS[start + i - t - 1]) {
                    return NONE;
                }
            }
            return end;
        }

        // X comes before it is known whether Y can: it stays even if Y can't.
        private void takeSign(int form, int t, int end, Words words, Grounds found) {
            int x = words.bring(packs[t]);
            int y = x == NONE ? NONE : words.bring(packs[end]);
            if (y == NONE) {
                return;
            }
            boolean turned = FORM_TURNS[form] == 1;
            int cell = cellOf(FORM_KINDS[form], turned ? y : x, turned ? x : y);
            found.add(cell, FORM_WEIGHTS[form], places[t]);
        }
    }

    /** Reasons of one source in their order: a text's signs marked by places, or the sayings marked by persons. */
    private static final class Grounds {
        final int[] cells;
        final int[] weights;
        final int[] marks;
        int size;

        Grounds(int most) {
            cells = new int[most];
            weights = new int[most];
            marks = new int[most];
        }

        boolean isFull() {
            return size >= cells.length;
        }

        void add(int cell, int weight, int mark) {
            if (!isFull()) {
                cells[size] = cell;
                weights[size] = weight;
                marks[size] = mark;
                size++;
            }
        }

        int countOf(int cell) {
            int found = 0;
            for (int i = 0; i < size; i++) {
                if (cells[i] == cell) {
                    found++;
                }
            }
            return found;
        }

        int find(int cell, int k) {
            int left = k;
            for (int i = 0; i < size; i++) {
                if (cells[i] == cell) {
                    if (left == 0) {
                        return i;
                    }
                    left--;
                }
            }
            return NONE;
        }
    }

    /** All texts and sayings, and what they come to: the weights of links, and what is barred. */
    private static final class Evidence {
        final Grounds[] texts;
        final boolean[] there;
        final Grounds sayings;
        final int[] weights;
        // For each word the bits of those that aren't above it.
        final int[] banned;

        Evidence() {
            texts = new Grounds[MOST_TEXTS];
            for (int i = 0; i < MOST_TEXTS; i++) {
                texts[i] = new Grounds(MOST_SIGNS);
            }
            there = new boolean[MOST_TEXTS];
            sayings = new Grounds(MOST_SAYINGS);
            weights = new int[LINK_KINDS * PAIRS];
            banned = new int[MOST_WORDS];
        }

        boolean hasText(int number) {
            return number >= 0 && number < MOST_TEXTS && there[number];
        }

        int freeText() {
            for (int i = 0; i < MOST_TEXTS; i++) {
                if (!there[i]) {
                    return i;
                }
            }
            return NONE;
        }

        int textsThere() {
            int found = 0;
            for (boolean is : there) {
                if (is) {
                    found++;
                }
            }
            return found;
        }

        void putText(int number) {
            there[number] = true;
            weigh(texts[number], 1);
        }

        void dropText(int number) {
            there[number] = false;
            weigh(texts[number], -1);
            texts[number].size = 0;
        }

        private void weigh(Grounds grounds, int times) {
            for (int i = 0; i < grounds.size; i++) {
                weights[grounds.cells[i]] += times * grounds.weights[i];
            }
        }

        int addSaying(int person, int cell, int weight) {
            sayings.add(cell, weight, person);
            weights[cell] += weight;
            return sayings.size - 1;
        }

        int addNot(int person, int x, int y) {
            sayings.add(cellOf(NOT, x, y), 0, person);
            banned[y] |= 1 << x;
            return sayings.size - 1;
        }

        int tell(int cell, int k, int what) {
            int left = k;
            for (int t = 0; t < MOST_TEXTS; t++) {
                int here = texts[t].countOf(cell);
                if (left < here) {
                    return tellSign(t, cell, left, what);
                }
                left -= here;
            }
            return tellSaying(sayings.find(cell, left), what);
        }

        private int tellSign(int t, int cell, int k, int what) {
            int i = texts[t].find(cell, k);
            if (i == NONE) {
                return NONE;
            }
            switch (what) {
                case 0:
                    return 100 * t + k;
                case 1:
                    return texts[t].marks[i];
                case 3:
                    return texts[t].weights[i];
                default:
                    return NONE;
            }
        }

        private int tellSaying(int i, int what) {
            if (i == NONE) {
                return NONE;
            }
            switch (what) {
                case 2:
                    return sayings.marks[i];
                case 3:
                    return sayings.weights[i];
                default:
                    return NONE;
            }
        }
    }

    /** What is above what so far: links join it one by one, and it tells which may not. */
    private static final class Forest {
        // For each member the bits of all above it.
        final int[] aboves;

        Forest(int most) {
            aboves = new int[most];
        }

        void clear() {
            Arrays.fill(aboves, 0);
        }

        void copy(Forest other) {
            for (int i = 0; i < aboves.length && i < other.aboves.length; i++) {
                aboves[i] = other.aboves[i];
            }
        }

        // Banned are, for each member, the bits of those that aren't above it.
        int barOf(int x, int y, int[] banned) {
            if (hasBit(aboves[x], y)) {
                return RING;
            }
            int gained = aboves[x] | 1 << x;
            for (int i = 0; i < aboves.length && i < banned.length; i++) {
                if (isOrLower(i, y) && (banned[i] & gained) != 0) {
                    return BARRED;
                }
            }
            return FREE;
        }

        void join(int x, int y) {
            int gained = aboves[x] | 1 << x;
            for (int i = 0; i < aboves.length; i++) {
                if (isOrLower(i, y)) {
                    aboves[i] |= gained;
                }
            }
        }

        int lowerThan(int member) {
            int lower = 0;
            for (int i = 0; i < aboves.length; i++) {
                if (hasBit(aboves[i], member)) {
                    lower |= 1 << i;
                }
            }
            return lower;
        }

        private boolean isOrLower(int i, int y) {
            return i == y || hasBit(aboves[i], y);
        }
    }

    /** The tree of the heaviest links, and the neighbours in it. */
    private static final class Tree {
        final Forest forest;
        final int[] parents;
        final int[] bars;
        // For each word the bits of its neighbours.
        final int[] nears;
        final int[] order;
        int weighed;
        int links;
        int total;

        Tree() {
            forest = new Forest(MOST_WORDS);
            parents = new int[MOST_WORDS];
            bars = new int[PAIRS];
            nears = new int[MOST_WORDS];
            order = new int[PAIRS];
        }

        void build(int[] weights, int[] banned) {
            clear();
            orderLinks(weights);
            for (int i = 0; i < weighed; i++) {
                place(order[i], weights[order[i]], banned);
            }
            for (int i = 0; i < MOST_WORDS; i++) {
                findNears(i, weights);
            }
        }

        private void clear() {
            forest.clear();
            Arrays.fill(parents, NONE);
            Arrays.fill(bars, NO_WEIGHT);
            Arrays.fill(nears, 0);
            weighed = 0;
            links = 0;
            total = 0;
        }

        // Cells go up by x, then y: of equal weights the one that came first stays before.
        private void orderLinks(int[] weights) {
            for (int cell = 0; cell < PAIRS; cell++) {
                if (weights[cell] > 0) {
                    int at = weighed;
                    while (at > 0 && weights[order[at - 1]] < weights[cell]) {
                        order[at] = order[at - 1];
                        at--;
                    }
                    order[at] = cell;
                    weighed++;
                }
            }
        }

        private void place(int cell, int weight, int[] banned) {
            int x = cell / MOST_WORDS;
            int y = cell % MOST_WORDS;
            bars[cell] = parents[y] == NONE ? forest.barOf(x, y, banned) : HAS_PARENT;
            if (bars[cell] == FREE) {
                parents[y] = x;
                forest.join(x, y);
                links++;
                total += weight;
            }
        }

        private void findNears(int i, int[] weights) {
            if (parents[i] != NONE) {
                makeNear(i, parents[i]);
            }
            for (int j = i + 1; j < MOST_WORDS; j++) {
                if (weights[cellOf(ALIKE, i, j)] > 0) {
                    makeNear(i, j);
                }
            }
        }

        private void makeNear(int i, int j) {
            nears[i] |= 1 << j;
            nears[j] |= 1 << i;
        }

        int meeting(int x, int y) {
            int at = x;
            for (int step = 0; step < MOST_WORDS && at != NONE; step++) {
                if (at == y || hasBit(forest.aboves[y], at)) {
                    return at;
                }
                at = parents[at];
            }
            return NONE;
        }

        int steps(int x, int y) {
            int top = meeting(x, y);
            return top == NONE ? NONE : depthOf(x) + depthOf(y) - 2 * depthOf(top);
        }

        private int depthOf(int i) {
            return Integer.bitCount(forest.aboves[i]);
        }

        int parts(int member) {
            int left = nears[member];
            int found = 0;
            for (int i = 0; i < MOST_WORDS; i++) {
                if (hasBit(left, i)) {
                    left &= ~partOf(i, nears[member]);
                    found++;
                }
            }
            return found;
        }

        // All that can be come to from a start by neighbours, staying inside.
        private int partOf(int start, int inside) {
            int part = 1 << start;
            for (int round = 0; round < MOST_WORDS; round++) {
                int before = part;
                for (int i = 0; i < MOST_WORDS; i++) {
                    if (hasBit(part, i)) {
                        part |= nears[i] & inside;
                    }
                }
                if (part == before) {
                    return part;
                }
            }
            return part;
        }
    }

    /** A tree's links as they once were. */
    private static final class Picture {
        final int[] parents;
        boolean kept;

        Picture() {
            parents = new int[MOST_WORDS];
        }

        void take(Tree tree) {
            for (int i = 0; i < MOST_WORDS; i++) {
                parents[i] = tree.parents[i];
            }
            kept = true;
        }

        int laidOver(Tree tree, int what) {
            if (what < 0 || what > 3) {
                return NONE;
            }
            int found = 0;
            for (int y = 0; y < MOST_WORDS; y++) {
                if (isOne(tree, what, y)) {
                    found++;
                }
            }
            return found;
        }

        private boolean isOne(Tree tree, int what, int y) {
            int old = parents[y];
            int now = tree.parents[y];
            switch (what) {
                case 0:
                    return old != NONE && old == now;
                case 1:
                    return old != NONE && old != now;
                case 2:
                    return now != NONE && old != now;
                default:
                    return old != NONE && hasBit(tree.forest.aboves[old], y);
            }
        }
    }

    /** Tries for each word of a small set every parent in the set, and none. */
    private static final class Search {
        final int[] members;
        final int[] weights;
        final int[] banned;
        // The most that the members from each on could add, whatever stands in their way.
        final int[] hopes;
        final Forest[] levels;
        int size;
        int greatest;

        Search() {
            members = new int[MOST_IN_SET];
            weights = new int[MOST_IN_SET * MOST_IN_SET];
            banned = new int[MOST_IN_SET];
            hopes = new int[MOST_IN_SET + 1];
            levels = new Forest[MOST_IN_SET + 1];
            for (int i = 0; i <= MOST_IN_SET; i++) {
                levels[i] = new Forest(MOST_IN_SET);
            }
        }

        int greatestSum(int set, Evidence evidence) {
            choose(set);
            Arrays.fill(banned, 0);
            for (int x = 0; x < size; x++) {
                for (int y = 0; y < size; y++) {
                    weights[x * MOST_IN_SET + y] = evidence.weights[cellOf(ABOVE, members[x], members[y])];
                    if (hasBit(evidence.banned[members[y]], members[x])) {
                        banned[y] |= 1 << x;
                    }
                }
            }
            hope();
            levels[0].clear();
            greatest = 0;
            descend(0, 0);
            return greatest;
        }

        private void choose(int set) {
            size = 0;
            for (int i = 0; i < MOST_WORDS; i++) {
                if (hasBit(set, i) && size < MOST_IN_SET) {
                    members[size] = i;
                    size++;
                }
            }
        }

        private void hope() {
            hopes[size] = 0;
            for (int y = size - 1; y >= 0; y--) {
                int most = 0;
                for (int x = 0; x < size; x++) {
                    most = Math.max(most, weights[x * MOST_IN_SET + y]);
                }
                hopes[y] = hopes[y + 1] + most;
            }
        }

        // Member y gets its parent at level y; deeper than the set is large it never goes.
        private void descend(int y, int reached) {
            greatest = Math.max(greatest, reached);
            if (y >= size || y >= MOST_IN_SET || reached + hopes[y] <= greatest) {
                return;
            }
            for (int x = 0; x < size; x++) {
                int gain = weights[x * MOST_IN_SET + y];
                if (gain > 0 && levels[y].barOf(x, y, banned) == FREE) {
                    levels[y + 1].copy(levels[y]);
                    levels[y + 1].join(x, y);
                    descend(y + 1, reached + gain);
                }
            }
            levels[y + 1].copy(levels[y]);
            descend(y + 1, reached);
        }
    }
}
