/** For each promise of the document ordinary inputs, the edges it names, and wrong inputs. */
public final class PromisesTest {
    private static final int NONE = WordTree.NONE;
    private static final int MIN = Integer.MIN_VALUE;
    private static final int MAX = Integer.MAX_VALUE;
    private static final int[] WRONG = {MIN, MIN + 1, -1000000, -32, -25, -24, -3, -2, 24, 25, 31, 32, 33, 64, 576, 1728,
            1000000, MAX - 1, MAX};

    private PromisesTest() {
    }

    public static void main(String[] args) {
        newObject();
        feed();
        text();
        back();
        forms();
        tokens();
        wordsOfSigns();
        word();
        letter();
        say();
        weight();
        reason();
        parent();
        why();
        aboveAndBelow();
        meetsAndWay();
        shared();
        senses();
        sum();
        best();
        keepAndOver();
        turnedAbout();
        count();
        wrongNumbers();
        Checks.due("NONE", NONE, -1);
        Checks.finish();
    }

    private static void due(String call, int got, int want) {
        Checks.due(call, got, want);
    }

    private static void due(String call, boolean got, boolean want) {
        Checks.due(call, got, want);
    }

    private static WordTree withWords(int many) {
        return Checks.withWords(many);
    }

    private static void newObject() {
        Checks.section("promise 1");
        WordTree x = new WordTree();
        for (int what = 0; what <= 5; what++) {
            due("count " + what, x.count(what), 0);
        }
        for (int what = 0; what <= 3; what++) {
            due("over " + what, x.over(what), NONE);
        }
        due("sum", x.sum(), 0);
        due("best of none", x.best(0), 0);
        due("best of one", x.best(1), NONE);
        due("signs", x.signs(0), NONE);
        due("back", x.back(0), false);
        due("letter", x.letter(0, NONE), NONE);
        due("weight", x.weight(0, 0, 1), NONE);
        due("parent", x.parent(0), NONE);
        due("below", x.below(0, NONE), NONE);
        due("above", x.above(0, 0), NONE);
        due("meets", x.meets(0, 0), NONE);
        due("way", x.way(0, 0), NONE);
        due("shared", x.shared(0, 0), NONE);
        due("senses", x.senses(0), NONE);
        WordTree other = new WordTree();
        Checks.text(other, "pets such as dogs");
        due("words, another object having some", x.count(0), 0);
    }

    private static void feed() {
        Checks.section("promise 2");
        WordTree x = new WordTree();
        for (int many = 20; many <= 200; many += 20) {
            due("feed", x.feed(MIN, -1, 0, 1, MAX), many);
        }
        due("feed, full", x.feed(0, 0, 0, 0, 0), NONE);
        due("bytes", x.count(3), 200);
        due("text of all", x.text(200), 0);
        due("feed anew", x.feed(0x7a616263, 0x64656667, 0x20202020, 0, 0), 20);
        due("word", x.word(8), 0);
        due("the highest byte first", Checks.spelled(x, 0).equals("zabcdefg"), true);
        x.feed(0x71717171, 0x71717171, 0x71717171, 0x71717171, 0x71717171);
        due("behind", Checks.feed(x, "rst"), 40);
        x.text(0);
        due("feed, a byte at its end", x.feed(0x20206162, 0x2020206f, 0x72206162, 0x20202020, 0x20206364), 20);
        due("text", x.text(20), 2);
        due("signs: the bytes in their order", x.signs(2), 0);
    }

    private static void text() {
        Checks.section("promise 3");
        WordTree x = new WordTree();
        due("text, tape empty", x.text(1), NONE);
        due("text, below 0", x.text(-1), NONE);
        due("text of nothing", x.text(0), 0);
        Checks.feed(x, "pets such as dogs");
        for (int n : new int[] {-1, MIN, 21, 200, 201, MAX}) {
            due("text " + n, x.text(n), NONE);
            due("bytes stay", x.count(3), 20);
        }
        due("text of the first bytes", x.text(15), 1);
        due("tape is empty", x.count(3), 0);
        due("word cut off", Checks.spelled(x, 1).equals("do"), true);
        for (int number = 2; number < 12; number++) {
            due("text", x.text(0), number);
        }
        Checks.feed(x, "cats or cows");
        due("text, 12 are there", x.text(12), NONE);
        due("bytes stay", x.count(3), 20);
        due("words", x.count(0), 2);
        due("texts", x.count(1), 12);
        due("back", x.back(7), true);
        due("back", x.back(3), true);
        due("text, the least free", x.text(12), 3);
        due("text, the next free", x.text(0), 7);
        due("text, none free", x.text(0), NONE);
        due("signs", x.signs(3), 1);
    }

    private static void back() {
        Checks.section("promise 4");
        WordTree x = new WordTree();
        due("back, none", x.back(0), false);
        Checks.text(x, "pets such as dogs");
        Checks.text(x, "pets such as dogs. dogs or cats");
        due("weight", x.weight(0, 0, 1), 4);
        for (int wrong : new int[] {-1, 2, 11, 12, MIN, MAX}) {
            due("back " + wrong, x.back(wrong), false);
        }
        due("back", x.back(1), true);
        due("back again", x.back(1), false);
        due("weight", x.weight(0, 0, 1), 2);
        due("weight alike", x.weight(2, 1, 2), 0);
        due("signs", x.signs(1), NONE);
        due("texts", x.count(1), 1);
        due("words stay", x.count(0), 3);
        due("parent", x.parent(1), 0);
        due("back", x.back(0), true);
        due("parent", x.parent(1), NONE);
        due("reason", x.reason(0, 0, 1, 0, 3), NONE);
        due("text", Checks.text(x, "dogs such as pets"), 0);
        due("weight", x.weight(0, 0, 1), 0);
        due("weight", x.weight(0, 1, 0), 2);
        due("signs", x.signs(0), 1);
    }

    private static void form(String bytes, int kind, int x, int y, int weight) {
        WordTree tree = new WordTree();
        due(bytes, Checks.text(tree, bytes), 0);
        due(bytes + " has a sign", tree.signs(0), 1);
        due(bytes + " brings two", tree.count(0), 2);
        for (int k = 0; k < 3; k++) {
            boolean one = k == kind;
            due(bytes + " weight " + k, tree.weight(k, x, y), one ? weight : 0);
            due(bytes + " weight turned " + k, tree.weight(k, y, x), one && k == 2 ? weight : 0);
        }
        due(bytes + " X comes first", Checks.spelled(tree, 0).equals("xx"), true);
    }

    private static void forms() {
        Checks.section("promise 5, forms");
        form("xx such as yy", 0, 0, 1, 2);
        form("xx and other yy", 0, 1, 0, 2);
        form("xx is a kind of yy", 0, 1, 0, 3);
        form("xx part of yy", 1, 0, 1, 1);
        form("xx or yy", 2, 0, 1, 1);
        form("such as xx such as yy such as", 0, 0, 1, 2);
        form("xx\nsuch \n as\n\nyy!", 0, 0, 1, 2);
        form(" .xx or yy", 2, 0, 1, 1);
        form("abcdefghi or xx or yy", 2, 0, 1, 1);
        form("xx or yy or abcdefghi", 2, 0, 1, 1);
        form("xx or xx or yy", 2, 0, 1, 1);
    }

    private static int signsOf(String bytes) {
        WordTree x = new WordTree();
        return x.signs(Checks.text(x, bytes));
    }

    private static void tokens() {
        Checks.section("promise 5, tokens");
        String[] none = {"", " ", "xx", "xx or", "or yy", "xx or xx", "xx or or", "or or yy", "xx such yy", "xx as yy",
                "xx such as", "xx such as such", "such such as yy", "xx and yy", "xx other yy", "xx is a kind yy",
                "xx is kind of yy", "xx kind of yy", "xx is a of yy", "xx part yy", "xx of yy", "xx, or yy", "xx or, yy",
                "xx or. yy", "xx\tor yy", "xx or\ryy", "xx 1 or yy", "xx or 2 yy", "Xx Or yY", "xx OR yy", "xxor yy",
                "xx oryy", "xx-or-yy", "abcdefghi or yy", "xx or abcdefghi", "xx such, as yy", "xx is a kind of",
                "xx is a kind of a", "a or xx", "xx part of part", "xx\0or yy", "xx or \u00e1yy", "xx \u00e1 or yy",
                "xx such as is", "xx or and", "xx or other", "xx or kind", "xx or of", "xx or as"};
        for (String bytes : none) {
            due("signs of '" + bytes + "'", signsOf(bytes), 0);
        }
        due("a byte of another kind parts", signsOf("xx1yy or zz"), 1);
        due("upper case isn't a letter", signsOf("Xx or yY"), 1);
        due("eight letters", signsOf("abcdefgh or ijklmnop"), 1);
        due("one letter", signsOf("x or y"), 1);
        due("a row", signsOf("xx or yy or zz or xx"), 3);
        due("Y is X of the next", signsOf("xx such as yy and other zz part of ww is a kind of vv"), 4);
        due("words alike the small ones", signsOf("suc or asx or andy or others or iss or aa or kinds or off or parts or ore"),
                9);
        StringBuilder tight = new StringBuilder("x");
        for (int i = 0; i < 39; i++) {
            tight.append(" or ").append(i % 2 == 0 ? 'y' : 'x');
        }
        due("the most signs", signsOf(tight.toString()), 39);
        StringBuilder many = new StringBuilder();
        for (int i = 0; i < 100; i++) {
            many.append("x ");
        }
        due("the most tokens", signsOf(many.toString()), 0);
        String last = many.substring(0, 194) + "x or y";
        WordTree twice = new WordTree();
        for (int number = 0; number < 2; number++) {
            due("a hundred tokens", Checks.text(twice, last), number);
            due("a sign at their end", twice.signs(number), 1);
        }
        due("signs, none such", new WordTree().signs(-1), NONE);
    }

    private static void wordsOfSigns() {
        Checks.section("promise 5, words of signs");
        WordTree x = withWords(23);
        due("text", Checks.text(x, "new or newer. wa or newer. newer or wa. new or wa. wb or wc"), 0);
        due("signs", x.signs(0), 2);
        due("X stayed", x.count(0), 24);
        due("X stayed", Checks.spelled(x, 23).equals("new"), true);
        due("weight of the one", x.weight(2, 23, 0), 1);
        due("weight of the other", x.weight(2, 1, 2), 1);
        due("text", Checks.text(x, "aa or bb"), 1);
        due("signs, words full", x.signs(1), 0);
        x = withWords(22);
        due("text", Checks.text(x, "new or newer"), 0);
        due("signs, just room", x.signs(0), 1);
        x = new WordTree();
        Checks.text(x, "xx such xx as yy or abcdefghi");
        due("tokens that are in no sign don't come", x.count(0), 0);
        Checks.text(x, "yy and other xx");
        due("X comes before Y, though below it", Checks.spelled(x, 0).equals("yy"), true);
    }

    private static void word() {
        Checks.section("promise 6");
        WordTree x = new WordTree();
        due("word of nothing", x.word(0), NONE);
        due("word, tape empty", x.word(1), -2);
        Checks.feed(x, "dogs");
        for (int n : new int[] {-1, MIN, 21, MAX}) {
            due("word " + n, x.word(n), -2);
            due("bytes stay", x.count(3), 20);
        }
        due("word", x.word(4), 0);
        due("tape is empty", x.count(3), 0);
        due("word of the first bytes", Checks.feed(x, "catsup") == 20 ? x.word(4) : NONE, 1);
        due("word again", Checks.word(x, "dogs"), 0);
        String[] wrong = {"such", "as", "and", "other", "is", "a", "kind", "of", "part", "or", "abcdefghi", "dOg", "dog ",
                " dog", "do1", "do\n", "`", "{", "@", "A", "Z", "[", "\u00e1", "do gs"};
        for (String bytes : wrong) {
            due("word '" + bytes + "'", Checks.word(x, bytes), NONE);
            due("bytes are taken", x.count(3), 0);
        }
        Checks.feed(x, "dogs");
        due("word of no bytes", x.word(0), NONE);
        due("bytes are taken", x.count(3), 0);
        Checks.feed(x, "dogsdogsdogsdogsdogsdogsdogsdogsdogsdogs");
        due("word of forty bytes", x.word(40), NONE);
        due("words", x.count(0), 2);
        due("eight letters", Checks.word(x, "abcdefgh"), 2);
        due("one letter", Checks.word(x, "z"), 3);
        due("letters of the edges", Checks.word(x, "az"), 4);
        x = withWords(24);
        due("word, 24 are there", Checks.word(x, "more"), NONE);
        due("bytes are taken", x.count(3), 0);
        due("word that is there", Checks.word(x, "wx"), 23);
        due("words", x.count(0), 24);
    }

    private static void letter() {
        Checks.section("promise 7");
        WordTree x = Checks.with("dog", "abcdefgh", "z");
        due("bytes", x.letter(0, NONE), 3);
        due("bytes", x.letter(1, NONE), 8);
        due("bytes", x.letter(2, NONE), 1);
        due("first", x.letter(0, 0), 'd');
        due("last", x.letter(0, 2), 'g');
        due("behind", x.letter(0, 3), NONE);
        for (int i = 0; i < 8; i++) {
            due("letter " + i, x.letter(1, i), 'a' + i);
        }
        for (int i : new int[] {-2, MIN, 8, 9, 64, MAX}) {
            due("letter " + i, x.letter(1, i), NONE);
        }
        due("no word", x.letter(3, 0), NONE);
        due("no word", x.letter(-1, NONE), NONE);
    }

    private static void say() {
        Checks.section("promise 8");
        WordTree x = withWords(3);
        due("person too small", x.say(-1, 0, 0, 1, 1), NONE);
        due("person too large", x.say(10, 0, 0, 1, 1), NONE);
        due("kind too small", x.say(0, -1, 0, 1, 1), NONE);
        due("kind too large", x.say(0, 4, 0, 1, 1), NONE);
        for (int kind = 0; kind <= 3; kind++) {
            due("alike words", x.say(0, kind, 1, 1, 1), NONE);
            due("no x", x.say(0, kind, 3, 1, 1), NONE);
            due("no x", x.say(0, kind, -1, 1, 1), NONE);
            due("no y", x.say(0, kind, 0, 3, 1), NONE);
            due("no y", x.say(0, kind, 0, -1, 1), NONE);
        }
        for (int kind = 0; kind <= 2; kind++) {
            for (int weight : new int[] {0, -1, 10, MIN, MAX}) {
                due("weight " + weight, x.say(0, kind, 0, 1, weight), NONE);
            }
        }
        due("nothing said", x.count(2), 0);
        due("least", x.say(0, 0, 0, 1, 1), 0);
        due("most", x.say(9, 0, 0, 1, 9), 1);
        due("part", x.say(3, 1, 0, 1, 5), 2);
        due("alike", x.say(3, 2, 0, 1, 6), 3);
        due("not", x.say(3, 3, 0, 2, 0), 4);
        due("not, any weight", x.say(3, 3, 0, 2, MIN), 5);
        due("not, any weight", x.say(3, 3, 0, 2, MAX), 6);
        due("weight", x.weight(0, 0, 1), 10);
        due("weight", x.weight(1, 0, 1), 5);
        due("weight", x.weight(2, 0, 1), 6);
        due("weight", x.weight(0, 0, 2), 0);
        for (int number = 7; number < 60; number++) {
            due("say", x.say(1, 1, 1, 0, 1), number);
        }
        due("full", x.say(1, 1, 1, 0, 1), NONE);
        due("full", x.say(1, 3, 1, 0, 1), NONE);
        due("sayings", x.count(2), 60);
        due("weight", x.weight(1, 1, 0), 53);
        due("last reason", x.reason(1, 1, 0, 52, 2), 1);
        due("behind the last", x.reason(1, 1, 0, 53, 2), NONE);
        due("not, refused", x.say(1, 3, 0, 1, 0), NONE);
        due("parent", x.parent(1), 0);
    }

    private static void weight() {
        Checks.section("promise 9");
        WordTree x = new WordTree();
        Checks.text(x, "pets such as dogs. dogs is a kind of pets. dogs and other pets. pets such as dogs");
        due("texts' signs", x.weight(0, 0, 1), 9);
        due("turned", x.weight(0, 1, 0), 0);
        x.say(0, 0, 0, 1, 4);
        due("saying", x.weight(0, 0, 1), 13);
        x.say(0, 3, 0, 1, 9);
        due("not weighs nothing", x.weight(0, 0, 1), 13);
        Checks.text(x, "dogs or pets. pets or dogs");
        x.say(0, 2, 1, 0, 7);
        due("alike", x.weight(2, 0, 1), 9);
        due("alike turned", x.weight(2, 1, 0), 9);
        Checks.text(x, "dogs part of pets");
        due("part", x.weight(1, 1, 0), 1);
        due("part turned", x.weight(1, 0, 1), 0);
        due("kind too small", x.weight(-1, 0, 1), NONE);
        due("not is no link", x.weight(3, 0, 1), NONE);
        due("kind too large", x.weight(4, 0, 1), NONE);
        for (int kind = 0; kind <= 2; kind++) {
            due("alike words", x.weight(kind, 1, 1), NONE);
            due("no x", x.weight(kind, 2, 1), NONE);
            due("no y", x.weight(kind, 1, 2), NONE);
            due("no x", x.weight(kind, -1, 1), NONE);
            due("no y", x.weight(kind, 1, -1), NONE);
        }
        WordTree full = withWords(24);
        full.say(0, 2, 23, 22, 9);
        due("the last words", full.weight(2, 22, 23), 9);
        full.say(0, 1, 23, 22, 8);
        due("the last words", full.weight(1, 23, 22), 8);
        due("first and last", full.weight(0, 0, 23), 0);
    }

    private static void reasonIs(WordTree x, int k, int number, int place, int person, int weight) {
        due("reason " + k + " number", x.reason(0, 0, 1, k, 0), number);
        due("reason " + k + " place", x.reason(0, 0, 1, k, 1), place);
        due("reason " + k + " person", x.reason(0, 0, 1, k, 2), person);
        due("reason " + k + " weight", x.reason(0, 0, 1, k, 3), weight);
        due("reason " + k + " others", x.reason(0, 0, 1, k, 4), NONE);
        due("reason " + k + " others", x.reason(0, 0, 1, k, -1), NONE);
    }

    private static void reason() {
        Checks.section("promise 10");
        WordTree x = new WordTree();
        Checks.text(x, "pets or dogs");
        x.say(7, 0, 0, 1, 9);
        Checks.text(x, "dogs is a kind of pets. cats or pets such as dogs");
        x.say(4, 0, 1, 0, 2);
        x.say(2, 0, 0, 1, 5);
        x.say(1, 3, 0, 1, 5);
        Checks.text(x, "  dogs and other pets");
        reasonIs(x, 0, 100, 0, NONE, 3);
        reasonIs(x, 1, 101, 32, NONE, 2);
        reasonIs(x, 2, 200, 2, NONE, 2);
        reasonIs(x, 3, NONE, NONE, 7, 9);
        reasonIs(x, 4, NONE, NONE, 2, 5);
        reasonIs(x, 5, NONE, NONE, NONE, NONE);
        reasonIs(x, -1, NONE, NONE, NONE, NONE);
        reasonIs(x, MAX, NONE, NONE, NONE, NONE);
        reasonIs(x, MIN, NONE, NONE, NONE, NONE);
        due("alike", x.reason(2, 0, 1, 0, 1), 0);
        due("alike turned", x.reason(2, 1, 0, 0, 1), 0);
        due("alike, number in its text", x.reason(2, 0, 2, 0, 0), 100);
        due("alike, place", x.reason(2, 0, 2, 0, 1), 24);
        due("turned", x.reason(0, 1, 0, 0, 2), 4);
        due("turned, no more", x.reason(0, 1, 0, 1, 2), NONE);
        due("not is no link", x.reason(3, 0, 1, 0, 2), NONE);
        due("no kind", x.reason(-1, 0, 1, 0, 2), NONE);
        due("alike words", x.reason(0, 1, 1, 0, 3), NONE);
        due("no word", x.reason(0, 0, 3, 0, 3), NONE);
        x.back(1);
        reasonIs(x, 0, 200, 2, NONE, 2);
        reasonIs(x, 1, NONE, NONE, 7, 9);
        Checks.text(x, "pets such as dogs");
        reasonIs(x, 0, 100, 0, NONE, 2);
        WordTree late = new WordTree();
        for (int i = 0; i < 11; i++) {
            late.text(0);
        }
        StringBuilder bytes = new StringBuilder();
        for (int i = 0; i < 16; i++) {
            bytes.append("xx or yy. ");
        }
        due("text", Checks.text(late, bytes.toString()), 11);
        due("last number", late.reason(2, 1, 0, 15, 0), 1115);
        due("last place", late.reason(2, 1, 0, 15, 1), 150);
    }

    private static void parent() {
        Checks.section("promise 11");
        WordTree x = withWords(5);
        due("none yet", x.parent(1), NONE);
        x.say(0, 0, 2, 1, 3);
        due("the only one", x.parent(1), 2);
        x.say(0, 0, 3, 1, 3);
        due("as heavy, but x greater", x.parent(1), 2);
        x.say(0, 0, 0, 1, 3);
        due("as heavy, x lesser", x.parent(1), 0);
        x.say(0, 0, 4, 1, 4);
        due("heavier", x.parent(1), 4);
        x.say(0, 1, 0, 1, 9);
        x.say(0, 2, 0, 1, 9);
        due("other kinds count for nothing", x.parent(1), 4);
        due("none above the root", x.parent(4), NONE);
        due("no word", x.parent(5), NONE);
        due("no word", x.parent(-1), NONE);
        x = withWords(3);
        x.say(0, 0, 1, 0, 2);
        x.say(0, 0, 0, 1, 2);
        due("of a ring of two the lesser x", x.parent(1), 0);
        due("of a ring of two", x.parent(0), NONE);
        x = withWords(4);
        x.say(0, 0, 0, 1, 2);
        x.say(0, 0, 1, 2, 2);
        x.say(0, 0, 2, 0, 2);
        due("of a ring of three", x.parent(0), NONE);
        due("of a ring of three", x.parent(1), 0);
        due("of a ring of three", x.parent(2), 1);
        x.say(0, 0, 2, 0, 1);
        due("the heaviest first", x.parent(0), 2);
        due("then the lesser x", x.parent(1), 0);
        due("the ring's last", x.parent(2), NONE);
    }

    private static void why() {
        Checks.section("promise 12");
        WordTree x = withWords(6);
        due("no weight", x.why(0, 1), 1);
        x.say(0, 3, 0, 1, 0);
        due("no weight before not", x.why(0, 1), 1);
        x.say(0, 0, 1, 2, 9);
        due("it is", x.why(1, 2), 0);
        x.say(0, 0, 3, 2, 8);
        due("has a parent", x.why(3, 2), 2);
        x.say(0, 0, 2, 1, 7);
        due("parent's turn", x.why(2, 1), 3);
        x.say(0, 0, 2, 4, 6);
        x.say(0, 0, 4, 1, 5);
        due("ring of three", x.why(4, 1), 3);
        x.say(0, 0, 0, 2, 9);
        due("has a parent already", x.why(0, 2), 0);
        due("as heavy, greater x", x.why(1, 2), 2);
        due("no x", x.why(6, 0), NONE);
        due("no y", x.why(0, 6), NONE);
        due("no x", x.why(-1, 0), NONE);
        due("no y", x.why(0, -1), NONE);
        due("alike", x.why(0, 0), NONE);
        x = withWords(6);
        x.say(0, 0, 0, 1, 9);
        x.say(0, 0, 2, 3, 9);
        x.say(0, 0, 1, 2, 5);
        due("it is", x.why(1, 2), 0);
        x.say(0, 3, 0, 3, 0);
        due("p above x, q below y", x.why(1, 2), 4);
        due("parent then", x.parent(2), NONE);
        x.say(0, 0, 4, 2, 1);
        due("barred, though another is its parent then", x.why(1, 2), 4);
        due("another is its parent", x.why(4, 2), 0);
        x.say(0, 0, 3, 0, 3);
        due("the not is one way", x.why(3, 0), 0);
        x = withWords(4);
        x.say(0, 3, 0, 2, 0);
        x.say(0, 0, 1, 2, 5);
        x.say(0, 0, 0, 1, 4);
        due("so far", x.why(1, 2), 0);
        due("q below y", x.why(0, 1), 4);
        x.say(0, 0, 0, 1, 4);
        due("the heavier goes first", x.why(0, 1), 0);
        due("p above x", x.why(1, 2), 4);
        x = withWords(4);
        x.say(0, 3, 0, 1, 0);
        x.say(0, 0, 0, 1, 5);
        due("p is x, q is y", x.why(0, 1), 4);
        x.say(0, 0, 2, 1, 5);
        due("has a parent, not would come later", x.why(0, 1), 4);
        x.say(0, 0, 2, 1, 5);
        due("has a parent before not", x.why(0, 1), 2);
        x = withWords(3);
        x.say(0, 0, 0, 1, 5);
        x.say(0, 3, 1, 0, 0);
        x.say(0, 0, 1, 0, 1);
        due("ring before not", x.why(1, 0), 3);
    }

    /** 0 above 3, 5; 3 above 1, 4; 4 above 2; 6 alone. */
    private static WordTree grown() {
        WordTree x = withWords(7);
        x.say(0, 0, 0, 3, 1);
        x.say(0, 0, 0, 5, 1);
        x.say(0, 0, 3, 1, 1);
        x.say(0, 0, 3, 4, 1);
        x.say(0, 0, 4, 2, 1);
        return x;
    }

    private static void aboveAndBelow() {
        Checks.section("promises 13 and 14");
        WordTree x = grown();
        due("parent", x.above(0, 3), 1);
        due("parent's parent", x.above(0, 4), 1);
        due("its parent", x.above(0, 2), 1);
        due("turned", x.above(2, 0), 0);
        due("aside", x.above(5, 1), 0);
        due("aside", x.above(1, 2), 0);
        due("itself", x.above(3, 3), 0);
        due("alone", x.above(0, 6), 0);
        for (int wrong : new int[] {-1, 7, MIN, MAX}) {
            due("no x", x.above(wrong, 0), NONE);
            due("no y", x.above(0, wrong), NONE);
            due("below, no word", x.below(wrong, NONE), NONE);
            due("below, no word", x.below(wrong, 0), NONE);
        }
        int[] wanted = {1, 2, 3, 4, 5};
        due("below 0", x.below(0, NONE), 5);
        for (int k = 0; k < 5; k++) {
            due("below 0, " + k, x.below(0, k), wanted[k]);
        }
        due("below 3", x.below(3, NONE), 3);
        due("below 3, 0", x.below(3, 0), 1);
        due("below 3, 1", x.below(3, 1), 2);
        due("below 3, 2", x.below(3, 2), 4);
        due("below 6", x.below(6, NONE), 0);
        due("below 6, 0", x.below(6, 0), NONE);
        for (int k : new int[] {5, -2, MIN, MAX, 24}) {
            due("below 0, " + k, x.below(0, k), NONE);
        }
        x.say(0, 0, 6, 0, 1);
        due("below 6", x.below(6, NONE), 6);
        due("below 6, the first word", x.below(6, 0), 0);
        WordTree chain = withWords(24);
        for (int i = 0; i < 23; i++) {
            chain.say(0, 0, i, i + 1, 1 + i % 9);
        }
        due("a long chain", chain.above(0, 23), 1);
        due("a long chain, turned", chain.above(23, 0), 0);
        due("a long chain, below", chain.below(0, NONE), 23);
        due("a long chain, the last", chain.below(0, 22), 23);
        due("a long chain, way", chain.way(0, 23), 23);
        due("a long chain, way", chain.way(23, 0), 23);
        due("a long chain, meets", chain.meets(23, 11), 11);
        due("a long chain, senses", chain.senses(11), 2);
        due("a long chain, links", chain.count(4), 23);
    }

    private static void meetsAndWay() {
        Checks.section("promises 15 and 16");
        WordTree x = grown();
        int[][] wanted = {{1, 4, 3, 2}, {1, 2, 3, 3}, {2, 5, 0, 4}, {5, 2, 0, 4}, {0, 2, 0, 3}, {2, 0, 0, 3}, {4, 2, 4, 1},
                {3, 3, 3, 0}, {6, 6, 6, 0}, {6, 0, NONE, NONE}, {0, 6, NONE, NONE}, {3, 5, 0, 2}, {2, 3, 3, 2}};
        for (int[] one : wanted) {
            due("meets " + one[0] + " " + one[1], x.meets(one[0], one[1]), one[2]);
            due("way " + one[0] + " " + one[1], x.way(one[0], one[1]), one[3]);
        }
        for (int wrong : new int[] {-1, 7, MIN, MAX}) {
            due("meets, no x", x.meets(wrong, 0), NONE);
            due("meets, no y", x.meets(0, wrong), NONE);
            due("way, no x", x.way(wrong, 0), NONE);
            due("way, no y", x.way(0, wrong), NONE);
            due("way, none", x.way(wrong, wrong), NONE);
        }
    }

    private static void shared() {
        Checks.section("promise 17");
        WordTree x = grown();
        due("parent", x.shared(1, 4), 1);
        due("child and parent", x.shared(0, 1), 1);
        due("none", x.shared(0, 3), 0);
        due("of itself all", x.shared(3, 3), 3);
        due("alone", x.shared(6, 6), 0);
        x.say(0, 2, 6, 3, 1);
        due("alike", x.shared(6, 1), 1);
        due("alike", x.shared(6, 0), 1);
        x.say(0, 2, 6, 0, 1);
        due("alike both", x.shared(6, 4), 1);
        due("two", x.shared(3, 0), 1);
        x.say(0, 1, 6, 1, 1);
        due("part is no neighbour", x.shared(6, 6), 2);
        x.say(0, 2, 3, 1, 1);
        due("parent and alike is one", x.shared(3, 3), 4);
        x.say(0, 0, 6, 2, 1);
        due("a link outside the tree is no neighbour", x.shared(6, 6), 2);
        for (int wrong : new int[] {-1, 7, MIN, MAX}) {
            due("no x", x.shared(wrong, 0), NONE);
            due("no y", x.shared(0, wrong), NONE);
        }
        Checks.text(x, "we or wf");
        due("by a text", x.shared(4, 5), 0);
        due("by a text", x.shared(4, 0), 2);
        x.back(0);
        due("taken back", x.shared(4, 0), 1);
    }

    private static void senses() {
        Checks.section("promise 18");
        WordTree x = grown();
        due("all apart", x.senses(3), 3);
        due("two apart", x.senses(0), 2);
        due("one", x.senses(1), 1);
        due("none", x.senses(6), 0);
        x.say(0, 2, 1, 4, 1);
        due("two alike", x.senses(3), 2);
        x.say(0, 2, 0, 4, 1);
        due("one behind the other", x.senses(3), 1);
        x = grown();
        x.say(0, 2, 1, 6, 1);
        x.say(0, 2, 6, 4, 1);
        due("not by one that is no neighbour of it", x.senses(3), 3);
        x.say(0, 2, 6, 3, 1);
        due("by one that is", x.senses(3), 2);
        x = withWords(24);
        for (int i = 1; i < 24; i++) {
            x.say(0, 2, 0, i, 1);
        }
        due("the most", x.senses(0), 23);
        for (int i = 1; i < 23; i++) {
            x.say(0, 2, 24 - i, 23 - i, 1);
        }
        due("a long row", x.senses(0), 1);
        for (int wrong : new int[] {-1, 24, MIN, MAX}) {
            due("no word", x.senses(wrong), NONE);
        }
    }

    private static void sum() {
        Checks.section("promise 19");
        WordTree x = withWords(4);
        due("nothing", x.sum(), 0);
        x.say(0, 0, 0, 1, 9);
        x.say(0, 0, 0, 1, 2);
        due("one link", x.sum(), 11);
        x.say(0, 0, 2, 1, 9);
        due("a second parent isn't one", x.sum(), 11);
        x.say(0, 0, 1, 2, 9);
        due("two links", x.sum(), 20);
        x.say(0, 1, 0, 3, 9);
        x.say(0, 2, 0, 3, 9);
        due("other kinds count for nothing", x.sum(), 20);
        x.say(0, 3, 0, 2, 0);
        due("barred", x.sum(), 11);
        due("what is barred", x.parent(2), NONE);
        due("what stays", x.parent(1), 0);
        due("weights", x.weight(0, 2, 1) + x.weight(0, 1, 2), 18);
    }

    private static void best() {
        Checks.section("promise 20");
        WordTree x = withWords(8);
        due("empty", x.best(0), 0);
        due("one", x.best(1), 0);
        due("six", x.best(0x3f), 0);
        due("six others", x.best(0xfc), 0);
        due("seven", x.best(0x7f), NONE);
        due("others", x.best(0x100), NONE);
        due("others", x.best(MIN), NONE);
        due("others", x.best(MAX), NONE);
        due("others", x.best(-1), NONE);
        due("others", x.best(1 << 23), NONE);
        due("others", x.best(1 << 24), NONE);
        x.say(0, 0, 0, 1, 5);
        x.say(0, 0, 1, 2, 5);
        x.say(0, 0, 2, 0, 6);
        x.say(0, 0, 7, 0, 4);
        x.say(0, 1, 0, 1, 9);
        x.say(0, 2, 0, 1, 9);
        due("no ring", x.best(7), 11);
        due("among these", x.best(3), 5);
        due("among these", x.best(6), 5);
        due("one from outside", x.best(0x87), 14);
        x.say(0, 0, 2, 1, 5);
        due("one parent", x.best(6), 5);
        due("one parent", x.best(7), 11);
        x.say(0, 3, 2, 1, 0);
        due("not, by a way over another", x.best(7), 11);
        due("not", x.best(6), 5);
        x.say(0, 3, 0, 2, 0);
        due("not", x.best(7), 11);
        x.say(0, 3, 1, 0, 0);
        due("nots", x.best(7), 6);
        due("nots of others count for nothing", x.best(3), 5);
        WordTree greedy = withWords(3);
        greedy.say(0, 0, 0, 1, 5);
        greedy.say(0, 0, 1, 0, 4);
        greedy.say(0, 0, 2, 1, 4);
        due("the tree takes the heaviest", greedy.sum(), 5);
        due("best is better", greedy.best(7), 8);
        greedy.say(0, 3, 2, 0, 0);
        due("not over the way", greedy.best(7), 5);
        WordTree light = withWords(6);
        for (int i = 0; i < 5; i++) {
            light.say(0, 0, i, i + 1, 1);
        }
        due("a chain of all six", light.best(0x3f), 5);
        light.say(0, 3, 0, 5, 0);
        light.say(0, 3, 1, 5, 0);
        due("two nots of one word", light.best(0x3f), 4);
        light.say(0, 0, 0, 5, 9);
        light.say(0, 0, 1, 5, 9);
        due("two nots of one word", light.best(0x3f), 4);
        WordTree full = withWords(24);
        full.say(0, 0, 23, 0, 9);
        full.say(0, 0, 12, 23, 9);
        due("the last words", full.best(1 << 23 | 1 << 12 | 1), 18);
        due("all", full.best((1 << 24) - 1), NONE);
        due("one above all", full.best(1 << 24 | 1), NONE);
    }

    private static void keepAndOver() {
        Checks.section("promises 21 and 22");
        WordTree x = grown();
        due("nothing is kept", x.over(0), NONE);
        due("keep", x.keep(), 5);
        overIs(x, 5, 0, 0, 0);
        due("others", x.over(4), NONE);
        due("others", x.over(-1), NONE);
        due("others", x.over(MIN), NONE);
        due("others", x.over(MAX), NONE);
        x.say(0, 0, 6, 3, 2);
        overIs(x, 4, 1, 1, 0);
        x.say(0, 0, 6, 0, 2);
        overIs(x, 4, 1, 2, 0);
        x.say(0, 3, 4, 2, 2);
        overIs(x, 3, 2, 2, 0);
        due("keep in its place", x.keep(), 5);
        overIs(x, 5, 0, 0, 0);
        WordTree none = new WordTree();
        due("keep nothing", none.keep(), 0);
        overIs(none, 0, 0, 0, 0);
        Checks.text(none, "pets such as dogs, cats and other pets");
        overIs(none, 0, 0, 2, 0);
    }

    private static void overIs(WordTree x, int both, int picture, int tree, int turned) {
        due("both", x.over(0), both);
        due("picture alone", x.over(1), picture);
        due("tree alone", x.over(2), tree);
        due("turned", x.over(3), turned);
    }

    private static void turnedAbout() {
        Checks.section("promise 22, turned about");
        WordTree x = withWords(4);
        x.say(0, 0, 0, 1, 2);
        x.say(0, 0, 1, 2, 2);
        due("keep", x.keep(), 2);
        x.say(0, 0, 2, 0, 9);
        due("2 above 0 above 1", x.above(2, 1), 1);
        overIs(x, 1, 1, 1, 1);
        x.say(0, 0, 1, 0, 9);
        x.say(0, 0, 2, 3, 9);
        x.say(0, 0, 3, 1, 9);
        due("2 above 3 above 1", x.above(2, 1), 1);
        due("parent of 0", x.parent(0), 1);
        overIs(x, 0, 2, 3, 2);
        due("keep", x.keep(), 3);
        x.say(0, 3, 2, 1, 0);
        x.say(0, 3, 1, 0, 0);
        x.say(0, 3, 2, 0, 0);
        due("parent of 1", x.parent(1), 0);
        due("parent of 2", x.parent(2), 1);
        due("parent of 0", x.parent(0), NONE);
        due("parent of 3", x.parent(3), 2);
        overIs(x, 1, 2, 2, 2);
    }

    private static void count() {
        Checks.section("promise 23");
        WordTree x = new WordTree();
        Checks.text(x, "pets such as dogs, cats and other pets, dogs such as pets, cats or dogs, pets part of dogs");
        Checks.feed(x, "more");
        x.say(0, 0, 1, 2, 1);
        x.say(0, 3, 2, 0, 1);
        due("words", x.count(0), 3);
        due("texts", x.count(1), 1);
        due("sayings", x.count(2), 2);
        due("bytes", x.count(3), 20);
        due("links of the tree", x.count(4), 2);
        due("links with a weight", x.count(5), 4);
        for (int what : new int[] {-1, 6, MIN, MAX}) {
            due("others", x.count(what), NONE);
        }
        x.back(0);
        due("texts", x.count(1), 0);
        due("links of the tree", x.count(4), 1);
        due("links with a weight", x.count(5), 1);
    }

    private static void wrongNumbers() {
        Checks.section("any int in any place");
        for (int wrong : WRONG) {
            WordTree x = grown();
            Checks.text(x, "wa such as wb or wc");
            x.keep();
            for (int i = 0; i < 3; i++) {
                int a = i == 1 ? 0 : wrong;
                int b = i == 0 ? 1 : wrong;
                due("weight", x.weight(0, a, b), NONE);
                due("reason", x.reason(0, a, b, 0, 3), NONE);
                due("why", x.why(a, b), NONE);
                due("above", x.above(a, b), NONE);
                due("meets", x.meets(a, b), NONE);
                due("way", x.way(a, b), NONE);
                due("shared", x.shared(a, b), NONE);
                due("say", x.say(0, 0, a, b, 1), NONE);
                due("say not", x.say(0, 3, a, b, 1), NONE);
            }
            due("letter", x.letter(wrong, 0), NONE);
            due("letter", x.letter(0, wrong), NONE);
            due("parent", x.parent(wrong), NONE);
            due("below", x.below(wrong, NONE), NONE);
            due("below", x.below(0, wrong), NONE);
            due("senses", x.senses(wrong), NONE);
            due("signs", x.signs(wrong), NONE);
            due("back", x.back(wrong), false);
            due("text", x.text(wrong), NONE);
            due("word", x.word(wrong), -2);
            due("weight kind", x.weight(wrong, 0, 1), NONE);
            due("reason kind", x.reason(wrong, 0, 1, 0, 3), NONE);
            due("reason k", x.reason(0, 0, 1, wrong, 3), NONE);
            due("reason what", x.reason(0, 0, 1, 0, wrong), NONE);
            due("say person", x.say(wrong, 0, 0, 1, 1), NONE);
            due("say kind", x.say(0, wrong, 0, 1, 1), NONE);
            due("say weight", x.say(0, 0, 0, 1, wrong), NONE);
            due("over", x.over(wrong), NONE);
            due("count", x.count(wrong), NONE);
            due("nothing came of it", x.count(0) + 100 * x.count(1) + 1000 * x.count(2), 5107);
        }
    }
}
