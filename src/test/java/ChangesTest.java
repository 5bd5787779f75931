import java.io.IOException;

/** Promises 1 to 8, what changes an object: for each sentence that names an edge a test of its own. */
public final class ChangesTest {
    private static final int NONE = WordTree.NONE;
    private static final int MIN = Integer.MIN_VALUE;
    private static final int MAX = Integer.MAX_VALUE;
    private static final int[] ENDS = {MIN, MIN + 1, -65536, -256, -25, -24, -2, -1, 0, 1, 5, 11, 12, 23, 24, 25, 31, 32,
        60, 199, 200, 201, 256, 65536, MAX - 1, MAX};

    private ChangesTest() {
    }

    public static void main(String[] args) throws IOException {
        Sentences.run(ChangesTest.class, 1, 8);
    }

    private static void due(String call, int got, int want) {
        Checks.due(call, got, want);
    }

    private static void due(String call, boolean got, boolean want) {
        Checks.due(call, got, want);
    }

    private static void due(String call, String got, String want) {
        Checks.due(call, got, want);
    }

    @Says("`WordTree()`: No WORDS, TEXTS, SAYINGS; nothing is KEPT.")
    static void promise1NoWords() {
        for (int n : ENDS) {
            WordTree x = new WordTree();
            due("letter", x.letter(n, NONE), NONE);
            due("letter", x.letter(0, n), NONE);
            due("parent", x.parent(n), NONE);
            due("senses", x.senses(n), NONE);
            due("below", x.below(n, NONE), NONE);
            due("below", x.below(0, n), NONE);
            for (int m : new int[] {n, 0, NONE, MAX}) {
                due("weight", x.weight(0, n, m), NONE);
                due("reason", x.reason(0, n, m, 0, 3), NONE);
                due("why", x.why(n, m), NONE);
                due("above", x.above(m, n), NONE);
                due("meets", x.meets(n, m), NONE);
                due("way", x.way(m, n), NONE);
                due("shared", x.shared(n, m), NONE);
                due("say", x.say(0, 0, n, m, 1), NONE);
                due("say not", x.say(0, 3, m, n, 1), NONE);
            }
            due("best", x.best(n), n == 0 ? 0 : NONE);
            due("words", x.count(0), 0);
        }
    }

    @Says("`WordTree()`: No WORDS, TEXTS, SAYINGS; nothing is KEPT.")
    static void promise1NoTextsNoSayings() {
        WordTree x = new WordTree();
        for (int n : ENDS) {
            due("signs", x.signs(n), NONE);
            due("back", x.back(n), false);
        }
        for (int what = 0; what <= 5; what++) {
            due("count " + what, x.count(what), 0);
        }
        due("sum", x.sum(), 0);
        due("the first text", x.text(0), 0);
        due("the first word", Checks.word(x, "xx"), 0);
        due("the next word", Checks.word(x, "yy"), 1);
        due("the first saying", x.say(0, 0, 0, 1, 1), 0);
    }

    @Says("`WordTree()`: No WORDS, TEXTS, SAYINGS; nothing is KEPT.")
    static void promise1NothingIsKept() {
        WordTree x = new WordTree();
        for (int n : ENDS) {
            due("over " + n, x.over(n), NONE);
        }
        due("keep", x.keep(), 0);
        due("over", x.over(0), 0);
    }

    @Says("`WordTree()`: No WORDS, TEXTS, SAYINGS; nothing is KEPT.")
    static void promise1EachObjectIsNew() {
        for (World other : World.values()) {
            Twins.unmoved(World.NEW, x -> other.make());
        }
        WordTree first = World.SOME.make();
        World.FULL.make();
        due("words of the first", first.count(0), 5);
        due("sayings of the first", first.count(2), 6);
    }

    @Says("Twenty bytes come behind those on the tape")
    static void promise2BytesComeBehind() {
        WordTree x = new WordTree();
        String letters = "bcdefghi".repeat(25);
        for (int from = 0; from < 200; from += 20) {
            due("feed", Checks.feed(x, letters.substring(from, from + 20)), from + 20);
        }
        due("text", x.text(200), 0);
        Checks.feed(x, "!".repeat(20));
        Checks.feed(x, " x or y is a kind of");
        due("behind the others", Checks.feed(x, " zz"), 60);
        due("text", x.text(42), 1);
        due("place", x.reason(2, 0, 1, 0, 1), 21);
        due("a sign over the seam", x.reason(0, 2, 1, 0, 1), 26);
        due("up to the byte asked for", Checks.spelled(x, 2), "z");
    }

    @Says("of each number the highest first")
    static void promise2OfEachNumberTheHighestFirst() {
        WordTree x = new WordTree();
        due("feed", x.feed(0x62636465, 0x66676869, 0, 0, 0), 20);
        due("word", x.word(8), 0);
        due("its letters", Checks.spelled(x, 0), "bcdefghi");
        due("feed", x.feed(0xff61ff62, 0x206f7220, 0x80638000, MAX, MIN), 20);
        due("text", x.text(20), 0);
        due("a byte above 127 parts, and spoils no other", x.signs(0), 0);
        due("feed", x.feed(0x7a7a206f, 0x72207a79, 0xffffffff, 0x80000000, 0x7fffffff), 20);
        due("text", x.text(20), 1);
        due("its sign", x.signs(1), 1);
        due("its words", Checks.spelled(x, 1) + Checks.spelled(x, 2), "zzzy");
    }

    @Says("of each number the highest first: how many there are.")
    static void promise2HowManyThereAre() {
        int[] numbers = {0, 1, -1, MIN, MAX};
        for (int number : numbers) {
            WordTree x = new WordTree();
            for (int many = 20; many <= 200; many += 20) {
                due("feed", x.feed(number, number, number, number, number), many);
                due("bytes", x.count(3), many);
            }
            due("one more", x.feed(number, number, number, number, number), NONE);
            due("bytes", x.count(3), 200);
            x.word(0);
            due("anew", x.feed(number, number, number, number, number), 20);
        }
    }

    @Says("NONE, doing nothing: there would be more than 200.")
    static void promise2MoreThan200() {
        Twins.unmoved(World.FULL, x -> {
            due("feed", x.feed(0x7a7a7a7a, 0x7a7a7a7a, 0x7a7a7a7a, 0x7a7a7a7a, 0x7a7a7a7a), NONE);
            due("feed", x.feed(MIN, MAX, 0, -1, 1), NONE);
        });
        WordTree x = new WordTree();
        Checks.feed(x, "bb or cc" + ".".repeat(184) + "dd or ee");
        due("feed", x.feed(0x7a7a7a7a, 0x7a7a7a7a, 0x7a7a7a7a, 0x7a7a7a7a, 0x7a7a7a7a), NONE);
        due("bytes", x.count(3), 200);
        due("text", x.text(200), 0);
        due("the first bytes stay", Checks.spelled(x, 0) + Checks.spelled(x, 1), "bbcc");
        due("the last bytes stay", Checks.spelled(x, 2) + Checks.spelled(x, 3), "ddee");
    }

    @Says("The first n bytes of the tape (which is empty then) are a TEXT")
    static void promise3TheFirstNBytes() {
        String bytes = "xx or yy or zz";
        for (int n = 0; n <= 20; n++) {
            WordTree x = new WordTree();
            Checks.feed(x, bytes);
            due("text", x.text(n), 0);
            due("signs of " + n, x.signs(0), n < 7 ? 0 : n < 13 ? 1 : 2);
            due("the last word", Checks.spelled(x, 1), n < 7 ? "" : n == 7 ? "y" : "yy");
            due("words", x.count(0), n < 7 ? 0 : n < 13 ? 2 : 3);
        }
    }

    @Says("The first n bytes of the tape (which is empty then) are a TEXT")
    static void promise3TheTapeIsEmptyThen() {
        for (int n : new int[] {0, 1, 20, 40, 200}) {
            WordTree x = new WordTree();
            Checks.feed(x, "xx or yy. ".repeat(20));
            due("text", x.text(n), 0);
            due("bytes", x.count(3), 0);
            due("nothing to take", x.text(1), NONE);
            due("nothing to take", x.word(1), -2);
            due("feed", Checks.feed(x, "zz"), 20);
            due("no byte of before", x.text(20), 1);
            due("no sign of before", x.signs(1), 0);
        }
    }

    @Says("its number, the least that is free (0 to 11).")
    static void promise3TheLeastThatIsFree() {
        for (int low = 0; low < 12; low++) {
            for (int high = 11; high > low; high--) {
                WordTree x = new WordTree();
                for (int text = 0; text < 12; text++) {
                    due("text", x.text(0), text);
                }
                due("back", x.back(high) && x.back(low), true);
                due("the least", x.text(0), low);
                due("the next", x.text(0), high);
                due("none", x.text(0), NONE);
            }
        }
    }

    @Says("NONE, doing nothing: n is below 0 or more than there are, 12 are there.")
    static void promise3NBelow0() {
        for (World world : World.values()) {
            for (int n : new int[] {-1, -2, -20, -200, MIN + 1, MIN}) {
                due(world + " text " + n, world.make().text(n), NONE);
            }
            Twins.unmoved(world, x -> {
                x.text(-1);
                x.text(MIN);
            });
        }
    }

    @Says("NONE, doing nothing: n is below 0 or more than there are, 12 are there.")
    static void promise3NMoreThanThereAre() {
        WordTree tape = new WordTree();
        for (int many = 0; many <= 200; many += 20) {
            for (int n : new int[] {many + 1, many + 20, many + 256, 201, MAX - 1, MAX}) {
                due("text " + n + " of " + many, tape.text(n), NONE);
                due("bytes stay", tape.count(3), many);
            }
            Checks.feed(tape, " ".repeat(20));
        }
        for (World world : World.values()) {
            Twins.unmoved(world, x -> {
                x.text(x.count(3) + 1);
                x.text(201);
                x.text(MAX);
            });
        }
    }

    @Says("NONE, doing nothing: n is below 0 or more than there are, 12 are there.")
    static void promise3AllThereAre() {
        for (int many = 0; many <= 200; many += 20) {
            WordTree x = new WordTree();
            Checks.feed(x, " ".repeat(many));
            due("text of all " + many, x.text(many), 0);
            due("texts", x.count(1), 1);
        }
    }

    @Says("NONE, doing nothing: n is below 0 or more than there are, 12 are there.")
    static void promise3TwelveAreThere() {
        Twins.unmoved(World.FULL, x -> {
            for (int n : new int[] {0, 1, 8, 20, 199, 200}) {
                due("text " + n, x.text(n), NONE);
            }
        });
        WordTree x = new WordTree();
        for (int text = 0; text < 12; text++) {
            x.text(0);
        }
        Checks.feed(x, "new or newer");
        due("the thirteenth", x.text(12), NONE);
        due("no words come", x.count(0), 0);
        due("bytes stay", x.count(3), 20);
        due("back", x.back(4), true);
        due("then the same bytes", x.text(12), 4);
        due("their words", Checks.spelled(x, 0) + Checks.spelled(x, 1), "newnewer");
    }

    @Says("A TEXT is taken back: true; false: none such.")
    static void promise4TakenBack() {
        for (int text = 0; text < 12; text++) {
            WordTree x = Checks.with("xx", "yy");
            for (int i = 0; i < 12; i++) {
                Checks.text(x, i == text ? "xx such as yy" : "yy or xx. xx part of yy");
            }
            due("weight", x.weight(0, 0, 1), 2);
            due("back " + text, x.back(text), true);
            due("weight", x.weight(0, 0, 1), 0);
            due("the others", x.weight(2, 0, 1), 11);
            due("texts", x.count(1), 11);
            due("signs", x.signs(text), NONE);
            due("links", x.count(5), 0);
            due("back again", x.back(text), false);
            due("texts", x.count(1), 11);
        }
    }

    @Says("A TEXT is taken back: true; false: none such.")
    static void promise4NothingOfItIsLeft() {
        WordTree x = Checks.with("xx", "yy", "zz");
        Checks.text(x, "xx such as yy, xx such as zz, xx such as yy");
        x.say(7, 0, 0, 1, 1);
        x.say(8, 0, 0, 2, 1);
        due("back", x.back(0), true);
        due("the first reason is the saying", x.reason(0, 0, 1, 0, 2), 7);
        due("the first reason is the saying", x.reason(0, 0, 2, 0, 2), 8);
        due("there is no other", x.reason(0, 0, 1, 1, 3), NONE);
        due("a shorter text in its place", Checks.text(x, "xx such as yy"), 0);
        due("its weight", x.weight(0, 0, 1), 3);
        due("none of what was behind its end", x.weight(0, 0, 2), 1);
        due("its reason", x.reason(0, 0, 1, 0, 3), 2);
        due("the next is the saying", x.reason(0, 0, 1, 1, 2), 7);
        due("no reason of before", x.reason(0, 0, 2, 0, 2), 8);
        due("back", x.back(0), true);
        due("weights", x.weight(0, 0, 1) * 10 + x.weight(0, 0, 2), 11);
        Checks.text(x, "zz or xx");
        due("of another kind", x.weight(2, 0, 2), 1);
        due("weights", x.weight(0, 0, 1) * 10 + x.weight(0, 0, 2), 11);
    }

    @Says("A TEXT is taken back: true; false: none such.")
    static void promise4NoneSuch() {
        for (int wrong : Checks.beyond(0, 11)) {
            for (World world : World.values()) {
                due(world + " back " + wrong, world.make().back(wrong), false);
            }
        }
        due("one that was taken back", World.SOME.make().back(1), false);
        due("one that never was", World.SOME.make().back(3), false);
        for (World world : World.values()) {
            Twins.unmoved(world, x -> {
                for (int wrong : Checks.beyond(0, 11)) {
                    x.back(wrong);
                }
            });
        }
        Twins.unmoved(World.SOME, x -> {
            x.back(1);
            x.back(3);
            x.back(11);
        });
    }

    @Says("How many SIGNS a TEXT has. NONE: none such.")
    static void promise5Signs() {
        WordTree x = new WordTree();
        due("text of nothing", x.text(0), 0);
        for (int text = 1; text < 12; text++) {
            Checks.text(x, "xx or yy. ".repeat(text));
        }
        for (int text = 0; text < 12; text++) {
            due("signs " + text, x.signs(text), text);
        }
        Checks.place("signs", x::signs, 0, 0, 11, 11);
        x.back(0);
        x.back(11);
        Checks.place("signs", x::signs, 1, 1, 10, 10);
        Checks.text(x, "xx or yy. xx or yy");
        due("a new text in its place", x.signs(0), 2);
    }

    @Says("How many SIGNS a TEXT has. NONE: none such.")
    static void promise5TheSignsOfATextDoNotGrow() {
        WordTree x = Checks.withWords(24);
        Checks.text(x, "wa or new");
        due("no sign, the words being full", x.signs(0), 0);
        Checks.text(x, "wa or wb");
        due("nor later", x.signs(0), 0);
        due("another's", x.signs(1), 1);
        due("none such", x.signs(2), NONE);
    }

    @Says("The first n bytes of the tape (which is empty then) as a WORD: its number (it comes, if it wasn't there).")
    static void promise6TheFirstNBytes() {
        for (int n = 1; n <= 8; n++) {
            WordTree x = new WordTree();
            Checks.feed(x, "zyxwvutsrqponm");
            due("word " + n, x.word(n), 0);
            due("its letters", Checks.spelled(x, 0), "zyxwvutsrqponm".substring(0, n));
            due("the tape is empty then", x.count(3), 0);
            due("nothing to take", x.word(1), -2);
        }
    }

    @Says("The first n bytes of the tape (which is empty then) as a WORD: its number (it comes, if it wasn't there).")
    static void promise6ItComesIfItWasNotThere() {
        WordTree x = new WordTree();
        for (int time = 0; time < 3; time++) {
            due("word", Checks.word(x, "xx"), 0);
            due("word", Checks.word(x, "xxx"), 1);
            due("word", Checks.word(x, "x"), 2);
            due("words", x.count(0), 3);
        }
        Checks.text(x, "yy or x");
        due("one that came by a sign", Checks.word(x, "yy"), 3);
        due("words", x.count(0), 4);
    }

    @Says("NONE: it can't be one (n bytes are taken all the same), there are 24")
    static void promise6ItCannotBeOne() {
        String[] wrong = {"", "such", "as", "and", "other", "is", "a", "kind", "of", "part", "or", "abcdefghi", "x y",
            " x", "x ", "\n", "X", "x1", "x\0", "\u00ff", "q".repeat(200)};
        for (String bytes : wrong) {
            WordTree x = new WordTree();
            Checks.feed(x, bytes);
            due("word '" + bytes + "'", x.word(bytes.length()), NONE);
            due("its bytes are taken", x.count(3), 0);
            due("feed", x.feed(0x7a7a7a7a, 0, 0, 0, 0), 20);
            due("from the first byte on", x.word(4), 0);
            due("words", x.count(0), 1);
        }
    }

    @Says("NONE: it can't be one (n bytes are taken all the same), there are 24")
    static void promise6ItCannotBeOneAndNothingElseComes() {
        for (World world : World.values()) {
            Twins.alike(world, x -> {
                x.word(0);
                Checks.feed(x, "such as");
                due("a small word", x.word(4), NONE);
                Checks.feed(x, "such as");
                due("two small words", x.word(7), NONE);
                Checks.feed(x, "abcdefghi");
                due("too long", x.word(9), NONE);
            }, x -> x.word(0));
        }
    }

    @Says("NONE: it can't be one (n bytes are taken all the same), there are 24")
    static void promise6ThereAre24() {
        WordTree x = Checks.withWords(23);
        due("the last", Checks.word(x, "last"), 23);
        due("one more", Checks.word(x, "more"), NONE);
        due("words", x.count(0), 24);
        due("one that is there", Checks.word(x, "last"), 23);
        due("one that is there", Checks.word(x, "wa"), 0);
        Twins.alike(World.FULL, one -> {
            one.word(0);
            Checks.feed(one, "more");
            due("one more", one.word(4), NONE);
        }, one -> one.word(0));
    }

    @Says("-2, doing nothing: n is below 0 or more than there are.")
    static void promise6NBelow0() {
        for (World world : World.values()) {
            for (int n : new int[] {-1, -2, -8, -200, MIN + 1, MIN}) {
                due(world + " word " + n, world.make().word(n), -2);
            }
            Twins.unmoved(world, x -> {
                x.word(-1);
                x.word(MIN);
            });
        }
    }

    @Says("-2, doing nothing: n is below 0 or more than there are.")
    static void promise6NMoreThanThereAre() {
        WordTree tape = new WordTree();
        for (int many = 0; many <= 200; many += 20) {
            for (int n : new int[] {many + 1, many + 20, many + 256, MAX - 1, MAX}) {
                due("word " + n + " of " + many, tape.word(n), -2);
                due("bytes stay", tape.count(3), many);
            }
            Checks.feed(tape, "b".repeat(20));
        }
        for (World world : World.values()) {
            Twins.unmoved(world, x -> {
                due("word", x.word(x.count(3) + 1), -2);
                due("word", x.word(201), -2);
                due("word", x.word(MAX), -2);
            });
        }
    }

    @Says("Bytes of a WORD (i NONE), byte i.")
    static void promise7Bytes() {
        String letters = "zyxwvuts";
        for (int many = 1; many <= 8; many++) {
            WordTree x = Checks.with(letters.substring(0, many));
            due("bytes", x.letter(0, NONE), many);
            Checks.place("letter", i -> x.letter(0, i), NONE, many, many - 1, letters.charAt(many - 1));
            for (int i = 0; i < 8; i++) {
                due("byte " + i, x.letter(0, i), i < many ? letters.charAt(i) : NONE);
            }
        }
    }

    @Says("Bytes of a WORD (i NONE), byte i. NONE: none such.")
    static void promise7NoneSuch() {
        WordTree full = Checks.withWords(24);
        WordTree three = Checks.withWords(3);
        Checks.place("bytes", w -> full.letter(w, NONE), 0, 2, 23, 2);
        Checks.place("first", w -> full.letter(w, 0), 0, 'w', 23, 'w');
        Checks.place("last", w -> full.letter(w, 1), 0, 'a', 23, 'x');
        Checks.place("bytes", w -> three.letter(w, NONE), 0, 2, 2, 2);
        Checks.place("last", w -> three.letter(w, 1), 0, 'a', 2, 'c');
        for (int wrong : Checks.beyond(0, 23)) {
            due("neither", full.letter(wrong, wrong), NONE);
        }
    }

    /** Calls that aren't as told, each wrong in one place; of a world with at least two words. */
    private static void sayWrong(WordTree x, int words) {
        for (int kind = 0; kind <= 3; kind++) {
            due("no person", x.say(NONE, kind, 0, 1, 1), NONE);
            due("no person", x.say(10, kind, 0, 1, 1), NONE);
            due("one word", x.say(0, kind, 1, 1, 1), NONE);
            due("no x", x.say(0, kind, NONE, 1, 1), NONE);
            due("no x", x.say(0, kind, words, 1, 1), NONE);
            due("no y", x.say(0, kind, 0, NONE, 1), NONE);
            due("no y", x.say(0, kind, 0, words, 1), NONE);
        }
        for (int kind = 0; kind <= 2; kind++) {
            due("no weight", x.say(0, kind, 0, 1, 0), NONE);
            due("too great a weight", x.say(0, kind, 0, 1, 10), NONE);
        }
        due("no kind", x.say(0, NONE, 0, 1, 1), NONE);
        due("no kind", x.say(0, 4, 0, 1, 1), NONE);
    }

    @Says("A SAYING: its number.")
    static void promise8ItsNumber() {
        WordTree x = Checks.withWords(24);
        for (int number = 0; number < 60; number++) {
            int kind = number * 7 % 4;
            due("refused, it takes no number", x.say(10, kind, 0, 1, 1), NONE);
            due("saying " + number, x.say(number % 10, kind, number % 24, (number + 1) % 24, 1 + number % 9), number);
            due("sayings", x.count(2), number + 1);
        }
        x = Checks.withWords(2);
        Checks.text(x, "wa such as wb");
        due("texts have numbers of their own", x.say(0, 0, 0, 1, 1), 0);
        x.back(0);
        due("nor does taking back free one", x.say(0, 0, 0, 1, 1), 1);
        due("the same again is one more", x.say(0, 0, 0, 1, 1) * 10 + x.weight(0, 0, 1), 23);
    }

    @Says("NONE, doing nothing: not as told")
    static void promise8NotAsToldDoesNothing() {
        for (World world : World.values()) {
            Twins.unmoved(world, x -> sayWrong(x, world.words));
        }
    }

    @Says("kind 0 to 3")
    static void promise8Kind0To3() {
        WordTree x = Checks.withWords(2);
        for (int kind = 0; kind <= 3; kind++) {
            due("kind " + kind, x.say(0, kind, 0, 1, 5), kind);
        }
        for (int wrong : Checks.beyond(0, 3)) {
            due("kind " + wrong, x.say(0, wrong, 0, 1, 5), NONE);
        }
        due("sayings", x.count(2), 4);
        for (int kind = 0; kind <= 2; kind++) {
            due("weight " + kind, x.weight(kind, 0, 1), 5);
        }
        due("the not", x.why(0, 1), 4);
    }

    @Says("x, y unlike WORDS")
    static void promise8UnlikeWords() {
        for (int words = 2; words <= 24; words += 11) {
            WordTree x = Checks.withWords(words);
            int last = words - 1;
            due("first and last", x.say(0, 0, 0, last, 1), 0);
            due("last and first", x.say(0, 3, last, 0, 1), 1);
            for (int kind = 0; kind <= 3; kind++) {
                for (int wrong : Checks.beyond(0, last)) {
                    due("x " + wrong, x.say(0, kind, wrong, 0, 1), NONE);
                    due("y " + wrong, x.say(0, kind, 0, wrong, 1), NONE);
                    due("both " + wrong, x.say(0, kind, wrong, wrong, 1), NONE);
                }
                due("alike", x.say(0, kind, 0, 0, 1), NONE);
                due("alike", x.say(0, kind, last, last, 1), NONE);
            }
            due("sayings", x.count(2), 2);
        }
    }

    @Says("of NOT weight counts for nothing")
    static void promise8OfNotWeightCountsForNothing() {
        WordTree x = Checks.withWords(3);
        x.say(0, 0, 0, 1, 5);
        x.say(0, 0, 0, 2, 5);
        for (int i = 0; i < ENDS.length; i++) {
            due("say not " + ENDS[i], x.say(9, 3, 0, 1, ENDS[i]), 2 + i);
        }
        due("weight above", x.weight(0, 0, 1), 5);
        due("weight part", x.weight(1, 0, 1), 0);
        due("weight alike", x.weight(2, 0, 1), 0);
        due("sum", x.sum(), 5);
        due("barred all the same", x.why(0, 1), 4);
        due("no reason", x.reason(0, 0, 1, 1, 3), NONE);
    }

    @Says("of NOT weight counts for nothing")
    static void promise8OfOthersWeightCounts() {
        WordTree x = Checks.withWords(3);
        for (int kind = 0; kind <= 2; kind++) {
            for (int weight : ENDS) {
                boolean right = weight >= 1 && weight <= 9;
                int there = x.count(2);
                due("weight " + weight, x.say(0, kind, 0, 1, weight), right ? there : NONE);
            }
        }
        due("sayings", x.count(2), 6);
    }

    @Says("60 are there")
    static void promise8SixtyAreThere() {
        WordTree x = Checks.withWords(3);
        for (int number = 0; number < 60; number++) {
            due("say", x.say(0, 0, 0, 1, 1), number);
        }
        due("one more", x.say(0, 0, 0, 1, 1), NONE);
        due("weight", x.weight(0, 0, 1), 60);
        due("a not more", x.say(0, 3, 0, 1, 1), NONE);
        due("it bars nothing", x.why(0, 1), 0);
        Twins.unmoved(World.FULL, full -> {
            for (int kind = 0; kind <= 3; kind++) {
                due("say", full.say(0, kind, 0, 1, 9), NONE);
                due("say", full.say(9, kind, 23, 0, 1), NONE);
            }
        });
    }
}
