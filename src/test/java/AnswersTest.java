import java.io.IOException;
import java.util.function.IntBinaryOperator;

/** Promises 9 to 23, what an object answers: for each sentence that names an edge a test of its own. */
public final class AnswersTest {
    private static final int NONE = WordTree.NONE;
    private static final int MIN = Integer.MIN_VALUE;
    private static final int MAX = Integer.MAX_VALUE;

    private AnswersTest() {
    }

    public static void main(String[] args) throws IOException {
        Sentences.run(AnswersTest.class, 9, 23);
    }

    private static void due(String call, int got, int want) {
        Checks.due(call, got, want);
    }

    /** Words 0 to last, each the parent of the next. */
    private static WordTree chain(int last) {
        WordTree x = Checks.withWords(last + 1);
        for (int i = 0; i < last; i++) {
            due("say", x.say(i % 10, 0, i, i + 1, 1 + i % 9), i);
        }
        return x;
    }

    /** Either place of a question takes the words 0 to last: what is due with both at 0, and with both at last. */
    private static void twoWords(String call, IntBinaryOperator ask, int last, int atFirst, int atLast) {
        Checks.place(call + ", x", x -> ask.applyAsInt(x, 0), 0, atFirst, last, ask.applyAsInt(last, 0));
        Checks.place(call + ", y", y -> ask.applyAsInt(last, y), 0, ask.applyAsInt(last, 0), last, atLast);
        for (int wrong : Checks.beyond(0, last)) {
            due(call + ", both " + wrong, ask.applyAsInt(wrong, wrong), NONE);
        }
    }

    @Says("WEIGHT of a LINK (kind 0 to 2). NONE: none such.")
    static void promise9Kind0To2() {
        WordTree x = Checks.withWords(24);
        for (int kind = 0; kind <= 3; kind++) {
            x.say(0, kind, 23, 0, 4 + kind);
            x.say(0, kind, 0, 23, 1);
        }
        Checks.place("kind", kind -> x.weight(kind, 23, 0), 0, 4, 2, 7);
        Checks.place("kind", kind -> x.weight(kind, 0, 23), 0, 1, 2, 7);
        due("kind 1", x.weight(1, 23, 0), 5);
        due("no link is none, but of weight 0", x.weight(0, 0, 1), 0);
    }

    @Says("WEIGHT of a LINK (kind 0 to 2). NONE: none such.")
    static void promise9NoSuchWords() {
        for (int kind = 0; kind <= 2; kind++) {
            int k = kind;
            for (int words : new int[] {2, 24}) {
                WordTree x = Checks.withWords(words);
                int last = words - 1;
                x.say(0, k, 0, last, 3);
                Checks.place("x", a -> x.weight(k, a, last), 0, 3, last, NONE);
                Checks.place("y", b -> x.weight(k, 0, b), 0, NONE, last, 3);
                due("one word twice", x.weight(k, last, last), NONE);
                due("one word twice", x.weight(k, 0, 0), NONE);
            }
        }
    }

    /** Reasons of the link of kind 2 of words 0, 1: 39 in each of 12 texts, then 60 sayings. */
    private static WordTree withAllReasons() {
        StringBuilder tight = new StringBuilder("x");
        for (int i = 0; i < 39; i++) {
            tight.append(" or ").append(i % 2 == 0 ? 'y' : 'x');
        }
        WordTree x = new WordTree();
        for (int text = 0; text < 12; text++) {
            due("text", Checks.text(x, tight.toString()), text);
        }
        for (int number = 0; number < 60; number++) {
            due("say", x.say(number % 10, 2, number % 2, 1 - number % 2, 1 + number % 9), number);
        }
        return x;
    }

    @Says("REASON k of a LINK")
    static void promise10KFrom0ToTheLast() {
        WordTree x = withAllReasons();
        due("the first", x.reason(2, 0, 1, 0, 0), 0);
        due("the last of the first text", x.reason(2, 0, 1, 38, 0), 38);
        due("the first of the next", x.reason(2, 0, 1, 39, 0), 100);
        due("the last sign", x.reason(2, 0, 1, 467, 0), 1138);
        due("the first saying", x.reason(2, 0, 1, 468, 2), 0);
        due("the last saying", x.reason(2, 0, 1, 527, 2), 9);
        for (int wrong : new int[] {-1, -2, -100, 528, 529, 600, 65536, MIN, MIN + 1, MIN + 528, MAX - 1, MAX}) {
            for (int what = 0; what <= 3; what++) {
                due("reason " + wrong, x.reason(2, 0, 1, wrong, what), NONE);
            }
        }
        due("of a link without any", x.reason(0, 0, 1, 0, 3), NONE);
    }

    @Says("100 times the TEXT and its PLACE's number among that LINK's SIGNS of the TEXT (what 0; of a SAYING NONE)")
    static void promise10What0() {
        WordTree x = withAllReasons();
        for (int k = 0; k < 468; k += 13) {
            due("reason " + k, x.reason(2, 1, 0, k, 0), 100 * (k / 39) + k % 39);
        }
        for (int k = 468; k < 528; k++) {
            due("of a saying", x.reason(2, 1, 0, k, 0), NONE);
        }
        WordTree mixed = Checks.withWords(3);
        Checks.text(mixed, "wa or wc. wa such as wb. wc or wb. wa such as wb");
        due("among that link's alone", mixed.reason(0, 0, 1, 0, 0), 0);
        due("among that link's alone", mixed.reason(0, 0, 1, 1, 0), 1);
        due("among that link's alone", mixed.reason(2, 2, 1, 0, 0), 0);
        due("another text's number", Checks.text(mixed, "wa such as wb"), 1);
        due("begins anew", mixed.reason(0, 0, 1, 2, 0), 100);
    }

    @Says("its PLACE (1; NONE)")
    static void promise10What1() {
        WordTree x = withAllReasons();
        for (int k = 0; k < 468; k += 19) {
            due("place of " + k, x.reason(2, 0, 1, k, 1), 5 * (k % 39));
        }
        due("the greatest of these", x.reason(2, 0, 1, 467, 1), 190);
        for (int k = 468; k < 528; k++) {
            due("of a saying", x.reason(2, 0, 1, k, 1), NONE);
        }
    }

    @Says("the person (2; of a TEXT NONE)")
    static void promise10What2() {
        WordTree x = withAllReasons();
        for (int k = 0; k < 468; k += 7) {
            due("of a text", x.reason(2, 0, 1, k, 2), NONE);
        }
        due("of the last sign", x.reason(2, 0, 1, 467, 2), NONE);
        for (int k = 468; k < 528; k++) {
            due("person", x.reason(2, 0, 1, k, 2), (k - 468) % 10);
        }
    }

    @Says("its weight (3). NONE: none such.")
    static void promise10What3() {
        WordTree x = withAllReasons();
        due("of a sign", x.reason(2, 0, 1, 467, 3), 1);
        for (int k = 468; k < 528; k++) {
            due("of a saying", x.reason(2, 0, 1, k, 3), 1 + (k - 468) % 9);
        }
        WordTree forms = Checks.withWords(2);
        Checks.text(forms, "wa such as wb. wb and other wa. wb is a kind of wa. wa part of wb");
        due("such as", forms.reason(0, 0, 1, 0, 3), 2);
        due("and other", forms.reason(0, 0, 1, 1, 3), 2);
        due("is a kind of", forms.reason(0, 0, 1, 2, 3), 3);
        due("part of", forms.reason(1, 0, 1, 0, 3), 1);
    }

    @Says("its weight (3). NONE: none such.")
    static void promise10NoSuchPlace() {
        WordTree x = Checks.withWords(24);
        Checks.text(x, "  wa or wx");
        for (int kind = 0; kind <= 3; kind++) {
            x.say(9, kind, 0, 23, 5 + kind);
        }
        Checks.place("what of a sign", what -> x.reason(2, 0, 23, 0, what), 0, 0, 3, 1);
        Checks.place("what of a saying", what -> x.reason(2, 0, 23, 1, what), 0, NONE, 3, 7);
        Checks.place("kind", kind -> x.reason(kind, 0, 23, 0, 3), 0, 5, 2, 1);
        Checks.place("x", a -> x.reason(2, a, 23, 1, 3), 0, 7, 23, NONE);
        Checks.place("y", b -> x.reason(2, 0, b, 1, 3), 0, NONE, 23, 7);
        Checks.place("k", k -> x.reason(2, 0, 23, k, 3), 0, 1, 1, 7);
        due("a not is no link", x.reason(3, 0, 23, 0, 2), NONE);
        due("nor a reason of one", x.reason(0, 0, 23, 1, 2), NONE);
    }

    @Says("The PARENT of a WORD. NONE: it has none, none such.")
    static void promise11Parent() {
        WordTree x = chain(23);
        Checks.place("parent", x::parent, 0, NONE, 23, 22);
        for (int i = 1; i < 24; i++) {
            due("parent", x.parent(i), i - 1);
        }
        WordTree two = Checks.withWords(2);
        due("it has none", two.parent(0), NONE);
        two.say(0, 0, 1, 0, 1);
        Checks.place("parent", two::parent, 0, 1, 1, NONE);
        two.say(0, 3, 1, 0, 1);
        due("it has none, being barred", two.parent(0), NONE);
        due("of a new word", two.parent(2), NONE);
        Checks.word(two, "new");
        due("of a new word", two.parent(2), NONE);
    }

    @Says("What bars x from being the PARENT of y (1 to 4); 0: it is.")
    static void promise12From0To4() {
        WordTree x = Checks.withWords(24);
        due("no weight", x.why(23, 22), 1);
        x.say(0, 0, 23, 22, 5);
        due("it is", x.why(23, 22), 0);
        x.say(0, 0, 21, 22, 4);
        due("it has a parent", x.why(21, 22), 2);
        x.say(0, 0, 22, 23, 4);
        due("it is above", x.why(22, 23), 3);
        x.say(0, 3, 23, 22, 4);
        due("a not", x.why(23, 22), 4);
        due("no parent any more", x.why(21, 22), 0);
        due("not above any more", x.why(22, 23), 0);
    }

    @Says("NONE: no such unlike WORDS.")
    static void promise12NoSuchUnlikeWords() {
        for (int last : new int[] {1, 23}) {
            WordTree x = chain(last);
            Checks.place("x", a -> x.why(a, 0), 0, NONE, last, 1);
            Checks.place("y", b -> x.why(last, b), 0, 1, last, NONE);
            Checks.place("both", a -> x.why(a, a), 0, NONE, last, NONE);
            due("it is", x.why(0, 1), 0);
            due("it is", x.why(last - 1, last), 0);
        }
        due("no words", new WordTree().why(0, 1), NONE);
        due("one word", Checks.withWords(1).why(0, 0), NONE);
    }

    @Says("Whether x is above y: 1, 0. NONE: none such.")
    static void promise13Above() {
        WordTree x = chain(23);
        for (int i = 0; i < 24; i++) {
            due("above the last", x.above(i, 23), i < 23 ? 1 : 0);
            due("below the first", x.above(i, 0), 0);
            due("not above itself", x.above(i, i), 0);
        }
        twoWords("above", x::above, 23, 0, 0);
        Checks.place("above, x", a -> x.above(a, 23), 0, 1, 23, 0);
        Checks.place("above, y", b -> x.above(0, b), 0, 0, 23, 1);
        twoWords("above, two words", chain(1)::above, 1, 0, 0);
        due("no words", new WordTree().above(0, 0), NONE);
    }

    @Says("How many are below a WORD (k NONE), the k-th by numbers.")
    static void promise14TheKthByNumbers() {
        WordTree x = chain(23);
        for (int i = 0; i < 24; i++) {
            int word = i;
            due("how many", x.below(word, NONE), 23 - word);
            if (word < 23) {
                Checks.place("below " + word, k -> x.below(word, k), NONE, 23 - word, 22 - word, 23);
                due("the first", x.below(word, 0), word + 1);
            }
        }
        WordTree turned = Checks.withWords(5);
        turned.say(0, 0, 4, 2, 9);
        turned.say(0, 0, 2, 3, 8);
        turned.say(0, 0, 2, 0, 7);
        due("by numbers, not by steps", turned.below(4, 0) * 100 + turned.below(4, 1) * 10 + turned.below(4, 2), 23);
        due("behind the last", turned.below(4, 3), NONE);
    }

    @Says("How many are below a WORD (k NONE), the k-th by numbers. NONE: none such.")
    static void promise14NoneSuch() {
        WordTree x = chain(23);
        Checks.place("how many", word -> x.below(word, NONE), 0, 23, 23, 0);
        Checks.place("the first", word -> x.below(word, 0), 0, 1, 23, NONE);
        Checks.place("below the last", k -> x.below(23, k), NONE, 0, NONE, 0);
        WordTree two = chain(1);
        Checks.place("how many, two words", word -> two.below(word, NONE), 0, 1, 1, 0);
        for (int wrong : Checks.beyond(NONE, 23)) {
            due("neither", x.below(wrong, wrong), NONE);
        }
        due("no words", new WordTree().below(0, NONE), NONE);
    }

    /** 0 above 1 and 2; 1 above 3 and 4; 5 above 23. */
    private static WordTree forest() {
        WordTree x = Checks.withWords(24);
        int[][] links = {{0, 1}, {0, 2}, {1, 3}, {1, 4}, {5, 23}};
        for (int[] one : links) {
            x.say(0, 0, one[0], one[1], 5);
        }
        return x;
    }

    @Says("The nearest that is x or above it and y or above it. NONE: none, none such.")
    static void promise15Meets() {
        WordTree x = forest();
        due("itself", x.meets(3, 3), 3);
        due("one alone", x.meets(22, 22), 22);
        due("the one above", x.meets(0, 3), 0);
        due("the one above", x.meets(3, 0), 0);
        due("the nearest", x.meets(3, 4), 1);
        due("the nearest", x.meets(4, 2), 0);
        due("none", x.meets(3, 23), NONE);
        due("none", x.meets(22, 3), NONE);
        due("none though alike", x.say(0, 2, 3, 23, 9) >= 0 ? x.meets(3, 23) : 0, NONE);
        twoWords("meets", chain(23)::meets, 23, 0, 23);
        twoWords("meets, two words", chain(1)::meets, 1, 0, 1);
        due("no words", new WordTree().meets(0, 0), NONE);
    }

    @Says("The WAY of two WORDS, in steps. NONE likewise.")
    static void promise16Way() {
        WordTree x = forest();
        due("itself", x.way(3, 3), 0);
        due("one alone", x.way(22, 22), 0);
        due("up", x.way(3, 0), 2);
        due("down", x.way(0, 3), 2);
        due("up and down", x.way(3, 4), 2);
        due("up and down", x.way(2, 4), 3);
        due("none", x.way(3, 23), NONE);
        due("none", x.way(22, 3), NONE);
        WordTree long23 = chain(23);
        due("the longest", long23.way(0, 23), 23);
        due("the longest", long23.way(23, 0), 23);
        twoWords("way", long23::way, 23, 0, 0);
        twoWords("way, two words", chain(1)::way, 1, 0, 0);
        due("no words", new WordTree().way(0, 0), NONE);
    }

    @Says("How many NEIGHBOURS x and y share. NONE: none such.")
    static void promise17Shared() {
        WordTree x = chain(23);
        due("none", x.shared(0, 1), 0);
        due("the one between", x.shared(21, 23), 1);
        due("of itself all", x.shared(5, 5), 2);
        twoWords("shared", x::shared, 23, 1, 1);
        twoWords("shared, two words", chain(1)::shared, 1, 1, 1);
        WordTree wide = Checks.withWords(24);
        for (int i = 1; i < 23; i++) {
            wide.say(0, 2, 0, i, 1);
            wide.say(0, 0, 23, i, 1);
        }
        due("the most of two", wide.shared(0, 23), 22);
        due("the most of two", wide.shared(23, 0), 22);
        due("no words", new WordTree().shared(0, 0), NONE);
    }

    @Says("SENSES of a WORD. NONE: none such.")
    static void promise18Senses() {
        WordTree x = chain(23);
        Checks.place("senses", x::senses, 0, 1, 23, 1);
        due("two", x.senses(11), 2);
        WordTree two = Checks.withWords(2);
        Checks.place("senses, two words", two::senses, 0, 0, 1, 0);
        two.say(0, 2, 0, 1, 1);
        Checks.place("senses, two words", two::senses, 0, 1, 1, 1);
        due("no words", new WordTree().senses(0), NONE);
    }

    @Says("The sum of WEIGHTS of THE TREE's LINKS.")
    static void promise19NoLinks() {
        WordTree x = new WordTree();
        due("nothing", x.sum(), 0);
        x = Checks.withWords(24);
        due("words alone", x.sum(), 0);
        x.say(0, 1, 0, 1, 9);
        x.say(0, 2, 0, 1, 9);
        due("other kinds", x.sum(), 0);
        x.say(0, 3, 0, 1, 9);
        due("a not", x.sum(), 0);
        x.say(0, 0, 0, 1, 9);
        due("a link that is barred", x.sum(), 0);
        due("it has a weight all the same", x.count(5), 1);
        Checks.text(x, "wa such as wc");
        due("a text", x.sum(), 2);
        x.back(0);
        due("the text taken back", x.sum(), 0);
    }

    @Says("The sum of WEIGHTS of THE TREE's LINKS.")
    static void promise19TheMostLinks() {
        WordTree x = Checks.withWords(24);
        for (int i = 1; i < 24; i++) {
            x.say(0, 0, 0, i, 9);
            x.say(0, 0, 0, i, 9);
            due("sum", x.sum(), 18 * i);
        }
        x.say(0, 0, 1, 0, 9);
        x.say(0, 0, 1, 2, 9);
        due("what is barred adds nothing", x.sum(), 414);
    }

    @Says("BEST of a set (bits of WORDS; 0 is one).")
    static void promise20TheEmptySet() {
        for (World world : World.values()) {
            due(world + " best of none", world.make().best(0), 0);
        }
    }

    @Says("BEST of a set (bits of WORDS; 0 is one).")
    static void promise20BitsOfWords() {
        WordTree x = chain(23);
        for (int i = 0; i < 24; i++) {
            due("one alone", x.best(1 << i), 0);
        }
        for (int i = 0; i < 23; i++) {
            due("two", x.best(3 << i), 1 + i % 9);
        }
        due("first and last", x.best(1 | 1 << 23), 0);
    }

    @Says("NONE: it has more than 6, or others than there are.")
    static void promise20MoreThan6() {
        WordTree x = chain(23);
        for (int from = 0; from <= 18; from++) {
            int sum = 0;
            for (int i = from; i < from + 5; i++) {
                sum += 1 + i % 9;
            }
            due("six from " + from, x.best(63 << from), sum);
        }
        for (int from = 0; from <= 17; from++) {
            due("seven from " + from, x.best(127 << from), NONE);
        }
        due("seven apart", x.best(0x249249), NONE);
        due("six apart", x.best(0x249248 & ~(1 << 21)), 0);
        due("all", x.best((1 << 24) - 1), NONE);
        WordTree seven = Checks.withWords(7);
        due("all seven", seven.best(127), NONE);
        due("six of seven", seven.best(126), 0);
    }

    @Says("NONE: it has more than 6, or others than there are.")
    static void promise20OthersThanThereAre() {
        for (int words : new int[] {0, 1, 5, 6, 7, 23, 24}) {
            WordTree x = Checks.withWords(words);
            for (int bit = 0; bit < 32; bit++) {
                due(words + " words, bit " + bit, x.best(1 << bit), bit < words ? 0 : NONE);
                due(words + " words, the first and bit " + bit, x.best(1 | 1 << bit),
                        words > 0 && bit < words ? 0 : NONE);
            }
            for (int wrong : new int[] {-1, -2, MIN, MIN + 1, MAX, MAX - 1, -64, 0x7f000000, 0xff000000}) {
                due(words + " words, set " + wrong, x.best(wrong), NONE);
            }
        }
    }

    @Says("THE TREE as it is is KEPT, in place of what was: how many LINKS.")
    static void promise21HowManyLinks() {
        due("no links", new WordTree().keep(), 0);
        due("no links", Checks.withWords(24).keep(), 0);
        WordTree x = Checks.withWords(24);
        for (int i = 0; i < 23; i++) {
            x.say(0, 0, i, i + 1, 1);
            due("links", x.keep(), i + 1);
            due("both", x.over(0), i + 1);
        }
        x.say(0, 0, 23, 0, 1);
        due("a barred one is none", x.keep(), 23);
    }

    @Says("THE TREE as it is is KEPT, in place of what was: how many LINKS.")
    static void promise21InPlaceOfWhatWas() {
        WordTree x = Checks.withWords(4);
        Checks.text(x, "wa such as wb. wb such as wc");
        due("keep", x.keep(), 2);
        x.back(0);
        due("what was", x.over(1), 2);
        due("keep none", x.keep(), 0);
        overIs(x, 0, 0, 0, 0);
        x.say(0, 0, 2, 3, 1);
        overIs(x, 0, 0, 1, 0);
        due("keep one", x.keep(), 1);
        overIs(x, 1, 0, 0, 0);
    }

    @Says("THE TREE as it is is KEPT, in place of what was: how many LINKS.")
    static void promise21KeepChangesNothingElse() {
        for (World world : World.values()) {
            Twins.alike(world, x -> {
                x.keep();
                x.keep();
            }, WordTree::keep);
        }
        WordTree x = World.FULL.make();
        int sum = x.sum();
        int links = x.count(4);
        due("keep", x.keep(), links);
        due("sum", x.sum(), sum);
        due("links", x.count(4), links);
    }

    private static void overIs(WordTree x, int both, int picture, int tree, int turned) {
        due("both", x.over(0), both);
        due("picture alone", x.over(1), picture);
        due("tree alone", x.over(2), tree);
        due("turned", x.over(3), turned);
    }

    @Says("Laid over: LINKS that both have (0), the picture alone (1), THE TREE alone (2), those turned about (3: of the "
            + "picture's LINKS).")
    static void promise22LaidOver() {
        WordTree x = Checks.withWords(24);
        x.say(0, 0, 23, 22, 1);
        x.say(0, 0, 22, 21, 1);
        x.say(0, 0, 0, 1, 1);
        due("keep", x.keep(), 3);
        overIs(x, 3, 0, 0, 0);
        x.say(0, 0, 22, 23, 2);
        overIs(x, 2, 1, 1, 1);
        x.say(0, 3, 0, 1, 0);
        overIs(x, 1, 2, 1, 1);
        x.say(0, 0, 2, 1, 1);
        overIs(x, 1, 2, 2, 1);
    }

    @Says("those turned about (3: of the picture's LINKS).")
    static void promise22TurnedOfThePicturesLinks() {
        WordTree x = Checks.withWords(3);
        Checks.text(x, "wa such as wb. wb such as wc");
        due("keep", x.keep(), 2);
        x.back(0);
        x.say(0, 0, 2, 0, 1);
        due("the tree's link is turned, none of the picture's", x.over(3), 0);
        x.say(0, 0, 0, 1, 1);
        due("the picture's 1, 2 is", x.over(3), 1);
        x = Checks.withWords(3);
        Checks.text(x, "wa such as wb");
        x.keep();
        x.back(0);
        x.say(0, 0, 1, 2, 1);
        x.say(0, 0, 2, 0, 1);
        due("by more than one step", x.over(3), 1);
    }

    @Says("NONE: nothing is KEPT, others.")
    static void promise22NothingIsKept() {
        WordTree x = chain(23);
        for (int what = 0; what <= 3; what++) {
            due("over " + what, x.over(what), NONE);
        }
        for (int wrong : Checks.beyond(0, 3)) {
            due("over " + wrong, x.over(wrong), NONE);
        }
        WordTree none = new WordTree();
        none.keep();
        overIs(none, 0, 0, 0, 0);
    }

    @Says("NONE: nothing is KEPT, others.")
    static void promise22Others() {
        WordTree x = chain(23);
        x.keep();
        Checks.place("over", x::over, 0, 23, 3, 0);
        WordTree none = new WordTree();
        none.keep();
        Checks.place("over", none::over, 0, 0, 3, 0);
    }

    @Says("0 WORDS, 1 TEXTS, 2 SAYINGS, 3 bytes on the tape, 4 LINKS of THE TREE, 5 LINKS of kind 0 with a WEIGHT.")
    static void promise23Counts() {
        WordTree x = World.FULL.make();
        int[] most = {24, 12, 60, 200};
        for (int what = 0; what < 4; what++) {
            due("count " + what, x.count(what), most[what]);
        }
        x = World.SOME.make();
        int[] some = {5, 2, 6, 60};
        for (int what = 0; what < 4; what++) {
            due("count " + what, x.count(what), some[what]);
        }
        x = Checks.withWords(24);
        due("links with a weight, none", x.count(5), 0);
        int links = 0;
        for (int i = 0; i < 60; i++) {
            x.say(0, 0, i % 24, (i + 1 + i / 24) % 24, 1);
            links++;
            due("links with a weight", x.count(5), links);
        }
        due("of these in the tree", x.count(4), 23);
    }

    @Says("5 LINKS of kind 0 with a WEIGHT")
    static void promise23WithAWeightAlone() {
        WordTree x = Checks.withWords(3);
        x.say(0, 1, 0, 1, 9);
        x.say(0, 2, 0, 1, 9);
        x.say(0, 3, 0, 1, 9);
        due("other kinds", x.count(5), 0);
        Checks.text(x, "wa such as wb. wb and other wa. wb such as wa");
        due("two links", x.count(5), 2);
        due("one in the tree, the other barred by a not", x.count(4), 1);
        x.back(0);
        due("taken back", x.count(5), 0);
        due("taken back", x.count(4), 0);
    }

    @Says("NONE for others.")
    static void promise23Others() {
        WordTree x = World.FULL.make();
        int weighed = x.count(5);
        Checks.place("count", x::count, 0, 24, 5, weighed);
        Checks.place("count", new WordTree()::count, 0, 0, 5, 0);
    }

    @Says("Nothing is promised beyond the answers and state changes described above")
    static void termsAskingChangesNothing() {
        for (World world : World.values()) {
            Twins.unmoved(world, x -> {
                for (int i = -1; i <= 24; i += 5) {
                    x.signs(i);
                    x.letter(i, 0);
                    x.weight(0, i, 1);
                    x.reason(0, i, 1, 0, 3);
                    x.parent(i);
                    x.why(i, 1);
                    x.above(i, 1);
                    x.below(i, 0);
                    x.meets(i, 1);
                    x.way(i, 1);
                    x.shared(i, 1);
                    x.senses(i);
                    x.best(63 << Math.max(i, 0));
                    x.over(i);
                    x.count(i);
                }
                x.sum();
            });
        }
    }
}
