import java.io.IOException;
import java.util.ArrayList;
import java.util.List;
import java.util.Random;

/** The document's first paragraph: what holds of every object, whatever it was told. The runs are the same every time. */
public final class WholeTest {
    private static final int NONE = WordTree.NONE;
    private static final int WORDS = 8;
    private static final int RUNS = 150;
    private static final String[] FORMS = {" such as ", " and other ", " is a kind of ", " part of ", " or "};

    /** The nots that were said, as p and q. */
    private final List<int[]> nots = new ArrayList<>();
    private final Random random;
    private final WordTree tree = Checks.withWords(WORDS);

    /** Texts and sayings make some 100 calls: what an object is asked must fit into the rest of its 512. */
    private WholeTest(int seed) {
        random = new Random(seed);
        for (int text = 0; text < 4; text++) {
            Checks.text(tree, sentences(1 + random.nextInt(8)));
        }
        for (int i = random.nextInt(28); i > 0; i--) {
            sayOne();
        }
        tree.back(random.nextInt(4));
        Checks.text(tree, sentences(1));
    }

    private String sentences(int many) {
        StringBuilder bytes = new StringBuilder();
        for (int i = 0; i < many; i++) {
            int[] two = twoWords();
            bytes.append(Checks.name(two[0])).append(FORMS[random.nextInt(FORMS.length)]).append(Checks.name(two[1]));
            bytes.append(random.nextBoolean() ? "." : ",\n");
        }
        return bytes.toString();
    }

    private void sayOne() {
        int kind = random.nextInt(6) % 4;
        int[] two = twoWords();
        Checks.due("say", tree.say(random.nextInt(10), kind, two[0], two[1], 1 + random.nextInt(9)) >= 0, true);
        if (kind == 3) {
            nots.add(two);
        }
    }

    private int[] twoWords() {
        int x = random.nextInt(WORDS);
        return new int[] {x, (x + 1 + random.nextInt(WORDS - 1)) % WORDS};
    }

    public static void main(String[] args) throws IOException {
        Sentences.run(WholeTest.class, 0, 0);
    }

    private static void due(String call, int got, int want) {
        Checks.due(call, got, want);
    }

    private static void due(String call, boolean got) {
        Checks.due(call, got, true);
    }

    private boolean isOrAbove(int x, int y) {
        return x == y || tree.above(x, y) == 1;
    }

    @Says("A word tree: words put above and below one another by what texts show and people say")
    static void termsWordsAreAboveAndBelow() {
        for (int seed = 0; seed < RUNS; seed++) {
            WordTree tree = new WholeTest(seed).tree;
            for (int x = 0; x < WORDS; x++) {
                int found = 0;
                for (int y = 0; y < WORDS; y++) {
                    if (tree.above(x, y) == 1) {
                        due("the next below " + x, tree.below(x, found), y);
                        found++;
                    }
                }
                due("all below " + x, tree.below(x, NONE), found);
                due("none beyond", tree.below(x, found), NONE);
                int parent = tree.parent(x);
                due("something put it there", parent == NONE || tree.weight(0, parent, x) > 0);
                due("by a reason", parent == NONE || tree.reason(0, parent, x, 0, 3) > 0);
            }
        }
    }

    @Says("the heaviest links kept without rings")
    static void termsWithoutRings() {
        for (int seed = 0; seed < RUNS; seed++) {
            WordTree tree = new WholeTest(seed).tree;
            for (int word = 0; word < WORDS; word++) {
                int steps = 0;
                for (int at = tree.parent(word); at != NONE && steps <= WORDS; at = tree.parent(at)) {
                    due(at + " above " + word, tree.above(at, word), 1);
                    due(word + " above " + at, tree.above(word, at), 0);
                    steps++;
                }
                due("an end above " + word, steps < WORDS);
                due("above itself", tree.above(word, word), 0);
            }
        }
    }

    @Says("without rings and with one parent each")
    static void termsOneParentEach() {
        for (int seed = 0; seed < RUNS; seed++) {
            WordTree tree = new WholeTest(seed).tree;
            int links = 0;
            int sum = 0;
            for (int y = 0; y < WORDS; y++) {
                int parent = tree.parent(y);
                for (int x = 0; x < WORDS; x++) {
                    due(x + " the parent of " + y, tree.why(x, y) == 0 == (x == parent && x != y));
                }
                links += parent == NONE ? 0 : 1;
                sum += parent == NONE ? 0 : tree.weight(0, parent, y);
            }
            due("links", tree.count(4), links);
            due("sum", tree.sum(), sum);
            due("kept", tree.keep(), links);
        }
    }

    @Says("the heaviest links kept")
    static void termsTheHeaviestAreKept() {
        for (int seed = 0; seed < RUNS; seed++) {
            WholeTest run = new WholeTest(seed);
            for (int x = 0; x < WORDS; x++) {
                for (int y = 0; y < WORDS; y++) {
                    if (x != y) {
                        run.barIsRight(x, y, run.tree.why(x, y));
                    }
                }
            }
        }
    }

    /** What bars a link came before it: its links are as heavy at least. */
    private void barIsRight(int x, int y, int bar) {
        int weight = tree.weight(0, x, y);
        due("bar 1 where there is no weight", (bar == 1) == (weight == 0));
        if (bar == 2) {
            int parent = tree.parent(y);
            int heavier = parent == NONE ? NONE : tree.weight(0, parent, y) - weight;
            due("a heavier parent, or a lesser one", heavier > 0 || heavier == 0 && parent < x);
        }
        if (bar == 3) {
            int at = x;
            for (int step = 0; step < WORDS && at != y && at != NONE; step++) {
                int parent = tree.parent(at);
                due("of heavier links", parent == NONE || tree.weight(0, parent, at) >= weight);
                at = parent;
            }
            due("a way up to it", at, y);
        }
        if (bar == 4) {
            due("a not it would bring", nots.stream().anyMatch(not -> isOrAbove(not[0], x) && isOrAbove(y, not[1])));
        }
        due("no parent, then something bars it", bar == 1 || tree.parent(y) != NONE || bar == 3 || bar == 4);
    }

    @Says("what is barred kept out with all that would bring it")
    static void termsWhatIsBarredIsKeptOut() {
        int barred = 0;
        for (int seed = 0; seed < RUNS; seed++) {
            WholeTest run = new WholeTest(seed);
            for (int[] not : run.nots) {
                due(not[0] + " isn't above " + not[1], run.tree.above(not[0], not[1]), 0);
                barred += run.tree.why(not[0], not[1]) == 4 ? 1 : 0;
            }
        }
        due("some nots barred a link of their own", barred > 0);
        WordTree x = Checks.withWords(4);
        x.say(0, 3, 0, 3, 0);
        x.say(0, 0, 0, 1, 9);
        x.say(0, 0, 1, 2, 8);
        x.say(0, 0, 2, 3, 7);
        due("the last of the links that would bring it", x.why(2, 3), 4);
        x.say(0, 0, 2, 3, 9);
        due("now the middle one", x.why(1, 2) * 10 + x.why(2, 3), 40);
    }

    @Says("ways between words")
    static void termsWaysBetweenWords() {
        for (int seed = 0; seed < RUNS; seed++) {
            WholeTest run = new WholeTest(seed);
            for (int x = 0; x < WORDS; x++) {
                due("to itself", run.tree.way(x, x), 0);
                for (int y = 0; y < x; y++) {
                    run.wayIsRight(x, y);
                }
            }
        }
    }

    private void wayIsRight(int x, int y) {
        int top = tree.meets(x, y);
        due("meets, either way", tree.meets(y, x), top);
        due("way, either way", tree.way(y, x), tree.way(x, y));
        if (top == NONE) {
            due("no way", tree.way(x, y), NONE);
            return;
        }
        due("is or above both", isOrAbove(top, x) && isOrAbove(top, y));
        due("none that is nearer", x == top || y == top || tree.meets(x, tree.parent(y)) == top);
        due("up and down", tree.way(x, y), tree.way(x, top) + tree.way(top, y));
    }

    @Says("senses and near ones by neighbours")
    static void termsSensesAndNearOnes() {
        for (int seed = 0; seed < RUNS; seed++) {
            WordTree tree = new WholeTest(seed).tree;
            for (int x = 0; x < WORDS; x++) {
                int near = 0;
                for (int y = 0; y < WORDS; y++) {
                    boolean link = tree.parent(x) == y || tree.parent(y) == x || tree.weight(2, x, y) > 0;
                    near += link ? 1 : 0;
                }
                due("neighbours of " + x, tree.shared(x, x), near);
                due("none without neighbours", tree.senses(x) > 0 == near > 0);
                due("no more than neighbours", tree.senses(x) <= near);
                due("shared, either way", tree.shared(x, WORDS - 1 - x), tree.shared(WORDS - 1 - x, x));
            }
        }
    }

    @Says("every link with its reasons.")
    static void termsEveryLinkWithItsReasons() {
        for (int seed = 0; seed < RUNS; seed += 10) {
            for (int x = 0; x < WORDS; x++) {
                for (int kind = 0; kind <= 2; kind++) {
                    WholeTest run = new WholeTest(seed);
                    for (int y = 0; y < WORDS; y++) {
                        run.reasonsAreRight(kind, x, y);
                    }
                }
            }
        }
    }

    private void reasonsAreRight(int kind, int x, int y) {
        int sum = 0;
        int before = NONE;
        boolean sayings = false;
        int k = 0;
        while (tree.reason(kind, x, y, k, 3) != NONE) {
            sum += tree.reason(kind, x, y, k, 3);
            int number = tree.reason(kind, x, y, k, 0);
            boolean saying = number == NONE;
            due("a place, or a person", saying == tree.reason(kind, x, y, k, 2) >= 0);
            due("a place where a text is", saying != tree.reason(kind, x, y, k, 1) >= 0);
            due("texts by numbers, then sayings", saying || !sayings && number > before);
            sayings = saying;
            before = number;
            k++;
        }
        due("the weight is that of its reasons", tree.weight(kind, x, y), x == y ? NONE : sum);
    }
}
