import java.io.IOException;

/** The document's "Terms": for each sentence that names an edge a test of its own. */
public final class TermsTest {
    private static final int NONE = WordTree.NONE;
    private static final String[] SMALL = {"such", "as", "and", "other", "is", "a", "kind", "of", "part", "or"};
    private static final String[] FORMS = {"such as", "and other", "is a kind of", "part of", "or"};

    private TermsTest() {
    }

    public static void main(String[] args) throws IOException {
        Sentences.run(TermsTest.class, 0, 0);
    }

    private static void due(String call, int got, int want) {
        Checks.due(call, got, want);
    }

    private static void due(String call, String got, String want) {
        Checks.due(call, got, want);
    }

    /** How many signs the bytes have as the only text of a new object. */
    private static int signsOf(String bytes) {
        WordTree x = new WordTree();
        return x.signs(Checks.text(x, bytes));
    }

    private static WordTree read(String bytes) {
        WordTree x = new WordTree();
        due("text '" + bytes + "'", Checks.text(x, bytes), 0);
        return x;
    }

    @Says("`NONE = -1`: There is none.")
    static void termsNoneIsMinus1() {
        due("the constant", NONE, -1);
        WordTree x = new WordTree();
        due("no word", x.parent(0), -1);
        due("no text", x.signs(0), -1);
        due("not one of the counts", x.count(6), -1);
        Checks.word(x, "dogs");
        due("as a place: how many bytes", x.letter(0, -1), 4);
        due("as a place: how many below", x.below(0, -1), 0);
    }

    @Says("An object is used for at most 512 calls after it has been made")
    static void termsTheCall512IsAnsweredToo() {
        WordTree x = new WordTree();
        for (int text = 0; text < 12; text++) {
            due("feed", x.feed(0x78206f72, 0x20792020, 0, 0, 0), 20);
            due("text", x.text(7), text);
        }
        for (int call = 25; call <= 510; call++) {
            due("weight", x.weight(2, 0, 1), 12);
        }
        due("call 511", x.back(11) ? 1 : 0, 1);
        due("call 512", x.weight(2, 1, 0), 11);
    }

    @Says("WORDS, up to 24")
    static void termsWordsUpTo24() {
        WordTree x = Checks.withWords(24);
        due("words", x.count(0), 24);
        due("the last", Checks.spelled(x, 23), "wx");
        due("one more", Checks.word(x, "more"), NONE);
        due("words", x.count(0), 24);
        due("no word 24", x.letter(24, NONE), NONE);
        due("nor has another given way", Checks.spelled(x, 0) + Checks.spelled(x, 23), "wawx");
    }

    @Says("WORDS, up to 24")
    static void termsWordsUpTo24BySigns() {
        StringBuilder bytes = new StringBuilder();
        for (int i = 0; i < 24; i += 2) {
            bytes.append(Checks.name(i)).append(" or ").append(Checks.name(i + 1)).append('.');
        }
        WordTree x = read(bytes.toString());
        due("signs", x.signs(0), 12);
        due("words", x.count(0), 24);
        due("the last", Checks.spelled(x, 23), "wx");
        Checks.text(x, "za or zb");
        due("signs, one more", x.signs(1), 0);
        due("words", x.count(0), 24);
    }

    @Says("numbered as they first come")
    static void termsNumberedAsTheyFirstCome() {
        WordTree x = read("cc or bb. bb such as aa. cc or aa");
        due("words", x.count(0), 3);
        due("in the order of coming", Checks.spelled(x, 0) + Checks.spelled(x, 1) + Checks.spelled(x, 2), "ccbbaa");
        due("a new one", Checks.word(x, "dd"), 3);
        due("one that is there", Checks.word(x, "bb"), 1);
        due("the first", Checks.word(x, "cc"), 0);
        Checks.text(x, "ee or dd");
        due("words", x.count(0), 5);
        due("alike", x.weight(2, 3, 4), 1);
    }

    @Says("1 to 8 letters a to z")
    static void termsOneToEightLettersAsAWord() {
        WordTree x = new WordTree();
        String letters = "zyxwvutsrqponmlkjihgfedcba";
        due("no letters", x.word(0), NONE);
        for (int n = 1; n <= 26; n++) {
            due(n + " letters", Checks.word(x, letters.substring(0, n)), n <= 8 ? n - 1 : NONE);
        }
        Checks.feed(x, letters.repeat(8).substring(0, 200));
        due("200 letters", x.word(200), NONE);
        due("words", x.count(0), 8);
        due("one letter", Checks.spelled(x, 0), "z");
        due("eight letters", Checks.spelled(x, 7), "zyxwvuts");
    }

    @Says("1 to 8 letters a to z")
    static void termsOneToEightLettersAsAToken() {
        for (int n = 1; n <= 190; n++) {
            String token = "bcdefghijklmnopqrstuvwxyz".repeat(8).substring(0, n);
            due("X of " + n, signsOf(token + " or yy"), n <= 8 ? 1 : 0);
            due("Y of " + n, signsOf("yy or " + token), n <= 8 ? 1 : 0);
        }
        WordTree x = read("abcdefghi or yy, yy or abcdefghi, abcdefgh or bcdefghi");
        due("only the last is a sign", x.signs(0), 1);
        due("and its words came", Checks.spelled(x, 0) + " " + Checks.spelled(x, 1), "abcdefgh bcdefghi");
    }

    @Says("1 to 8 letters a to z")
    static void termsLettersAreAToZ() {
        for (int b = 0; b < 256; b++) {
            String one = "" + (char) b;
            boolean letter = b >= 'a' && b <= 'z';
            due("word of byte " + b, Checks.word(new WordTree(), one), letter && b != 'a' ? 0 : NONE);
            due("word with byte " + b, Checks.word(new WordTree(), "q" + one), letter ? 0 : NONE);
            due("word before byte " + b, Checks.word(new WordTree(), one + "q"), letter ? 0 : NONE);
            WordTree x = read(one + "q or y");
            due("signs behind byte " + b, x.signs(0), 1);
            due("X behind byte " + b, Checks.spelled(x, 0), letter ? one + "q" : "q");
            x = read("y or q" + one);
            due("Y before byte " + b, Checks.spelled(x, 1), letter ? "q" + one : "q");
        }
    }

    @Says("none of: such, as, and, other, is, a, kind, of, part, or.")
    static void termsNoneOfTheSmallWords() {
        for (String one : SMALL) {
            WordTree x = new WordTree();
            due("word " + one, Checks.word(x, one), NONE);
            due("words", x.count(0), 0);
            due("word " + one + "x", Checks.word(x, one + "x"), 0);
            due("word x" + one, Checks.word(x, "x" + one), 1);
            for (String form : FORMS) {
                due(one + " as X", signsOf(one + " " + form + " yy"), 0);
                due(one + " as Y", signsOf("xx " + form + " " + one), 0);
                due(one + " with a letter more", signsOf(one + "x " + form + " x" + one), 1);
            }
        }
    }

    @Says("They stay, whatever is taken back.")
    static void termsWordsStayWhateverIsTakenBack() {
        WordTree x = read("pets such as dogs");
        Checks.text(x, "cats or dogs");
        due("back", x.back(0) && x.back(1) ? 1 : 0, 1);
        due("words", x.count(0), 3);
        due("their letters", Checks.spelled(x, 0) + Checks.spelled(x, 1) + Checks.spelled(x, 2), "petsdogscats");
        due("their numbers", Checks.word(x, "dogs"), 1);
        Checks.text(x, "cows or dogs");
        due("the next one's number", Checks.word(x, "cows"), 3);
    }

    @Says("They stay, whatever is taken back.")
    static void termsWordsStayThoughThereAre24() {
        WordTree x = World.FULL.make();
        for (int text = 0; text < 12; text++) {
            due("back " + text, x.back(text) ? 1 : 0, 1);
        }
        x.word(0);
        due("words", x.count(0), 24);
        due("no room", Checks.word(x, "more"), NONE);
        Checks.text(x, "more or most");
        due("no room for signs", x.signs(0), 0);
    }

    @Says("TEXTS, up to 12 at a time")
    static void termsTextsUpTo12AtATime() {
        WordTree x = new WordTree();
        for (int text = 0; text < 12; text++) {
            due("text", Checks.text(x, "x or y"), text);
        }
        due("the thirteenth", Checks.text(x, "x or y"), NONE);
        due("texts", x.count(1), 12);
        due("weight", x.weight(2, 0, 1), 12);
        for (int time = 0; time < 30; time++) {
            due("back", x.back(time % 12) ? 1 : 0, 1);
            due("at a time", x.text(6), time % 12);
            due("full again", x.text(0), NONE);
            Checks.feed(x, "x or y");
        }
        due("texts", x.count(1), 12);
        due("weight", x.weight(2, 0, 1), 12);
    }

    @Says("of up to 200 bytes")
    static void termsTextsOfUpTo200Bytes() {
        String bytes = "!".repeat(193) + "x or yy";
        WordTree x = new WordTree();
        for (int text = 0; text < 12; text++) {
            due("feed", Checks.feed(x, bytes), 200);
            due("more than there are", x.text(201), NONE);
            due("text", x.text(200 - text % 2), text);
            due("signs", x.signs(text), 1);
        }
        due("the last byte is one of it", Checks.spelled(x, 1), "yy");
        due("the last byte isn't one of 199", Checks.spelled(x, 2), "y");
        due("weight", x.weight(2, 0, 1), 6);
        due("place", x.reason(2, 0, 1, 5, 1), 193);
        due("weight", x.weight(2, 0, 2), 6);
    }

    @Says("Of its bytes rows of letters are TOKENS")
    static void termsTokensAtTheEndsOfAText() {
        due("nothing", signsOf(""), 0);
        due("blanks", signsOf(" \n".repeat(100)), 0);
        due("from the first byte to the last", signsOf("x or y"), 1);
        due("blanks before and behind", signsOf(" \n x or y\n "), 1);
        due("200 letters", signsOf("q".repeat(200)), 0);
        due("a hundred tokens", signsOf("x ".repeat(97) + "x or y"), 1);
        due("a hundred tokens, the sign first", signsOf("x or y" + " x".repeat(97)), 1);
        for (String form : FORMS) {
            String whole = "xx " + form + " yy";
            for (int n = 0; n <= whole.length(); n++) {
                due("cut off at " + n, signsOf(whole.substring(0, n)), n >= whole.length() - 1 ? 1 : 0);
                due("cut off before " + n, signsOf(whole.substring(n)), n <= 1 ? 1 : 0);
            }
        }
    }

    @Says("between two TOKENS blanks (bytes 32 and 10) alone let them follow one another; any other byte parts them.")
    static void termsBlanksAloneLetTokensFollow() {
        for (String form : FORMS) {
            String[] tokens = ("xx " + form + " yy").split(" ");
            for (int gap = 1; gap < tokens.length; gap++) {
                for (int b = 0; b < 256; b++) {
                    boolean blank = b == 32 || b == 10;
                    boolean letter = b >= 'a' && b <= 'z';
                    String one = "" + (char) b;
                    String told = form + ", gap " + gap + ", byte " + b;
                    due(told, signsOf(joined(tokens, gap, one)), blank ? 1 : 0);
                    if (!letter) {
                        due(told + " between blanks", signsOf(joined(tokens, gap, " " + one + "\n")), blank ? 1 : 0);
                        due(told + " before blanks", signsOf(joined(tokens, gap, one + "  ")), blank ? 1 : 0);
                        due(told + " behind blanks", signsOf(joined(tokens, gap, "\n\n" + one)), blank ? 1 : 0);
                    }
                }
                due(form + ", many blanks", signsOf(joined(tokens, gap, " \n".repeat(80))), 1);
            }
        }
    }

    /** The tokens with single blanks between them, but for one gap. */
    private static String joined(String[] tokens, int gap, String between) {
        StringBuilder bytes = new StringBuilder(tokens[0]);
        for (int i = 1; i < tokens.length; i++) {
            bytes.append(i == gap ? between : " ").append(tokens[i]);
        }
        return bytes.toString();
    }

    @Says("X and Y being unlike TOKENS that may be WORDS")
    static void termsXAndYAreUnlike() {
        for (String form : FORMS) {
            WordTree x = read("xx " + form + " xx");
            due(form + " of one", x.signs(0), 0);
            due("nothing came", x.count(0), 0);
            due("alike but for the end", signsOf("xx " + form + " xxx"), 1);
            due("alike but for a letter", signsOf("abcdefgh " + form + " abcdefgi"), 1);
            due("alike but for the first", signsOf("abcdefgh " + form + " bbcdefgh"), 1);
        }
    }

    @Says("X and Y being unlike TOKENS that may be WORDS")
    static void termsXAndYMayBeWords() {
        for (String form : FORMS) {
            for (String wrong : new String[] {"or", "a", "abcdefghi", "abcdefghabcdefgh"}) {
                WordTree x = read(wrong + " " + form + " yy. yy " + form + " " + wrong);
                due(wrong + " " + form, x.signs(0), 0);
                due("nothing came", x.count(0), 0);
            }
        }
    }

    private static void signIs(String bytes, int kind, int x, int y, int weight) {
        WordTree tree = read(bytes);
        due(bytes + " signs", tree.signs(0), 1);
        due(bytes + " X comes first", Checks.spelled(tree, 0), "xx");
        for (int k = 0; k <= 2; k++) {
            due(bytes + " weight " + k, tree.weight(k, x, y), k == kind ? weight : 0);
            due(bytes + " turned " + k, tree.weight(k, y, x), k == kind && k == 2 ? weight : 0);
        }
    }

    @Says("\"X such as Y\": X above Y, 2.")
    static void termsSuchAs() {
        signIs("xx such as yy", 0, 0, 1, 2);
        due("such alone", signsOf("xx such yy"), 0);
        due("as alone", signsOf("xx as yy"), 0);
        due("turned", signsOf("xx as such yy"), 0);
        due("twice", signsOf("xx such such as yy"), 0);
    }

    @Says("\"X and other Y\": Y above X, 2.")
    static void termsAndOther() {
        signIs("xx and other yy", 0, 1, 0, 2);
        due("and alone", signsOf("xx and yy"), 0);
        due("other alone", signsOf("xx other yy"), 0);
        due("turned", signsOf("xx other and yy"), 0);
        due("others", signsOf("xx and others yy"), 0);
    }

    @Says("\"X is a kind of Y\": Y above X, 3.")
    static void termsIsAKindOf() {
        signIs("xx is a kind of yy", 0, 1, 0, 3);
        for (String less : new String[] {"a kind of", "is kind of", "is a of", "is a kind", "is a", "kind of"}) {
            due(less, signsOf("xx " + less + " yy"), 0);
        }
    }

    @Says("\"X part of Y\": X is part of Y, 1.")
    static void termsPartOf() {
        signIs("xx part of yy", 1, 0, 1, 1);
        due("part alone", signsOf("xx part yy"), 0);
        due("of alone", signsOf("xx of yy"), 0);
        due("parts", signsOf("xx parts of yy"), 0);
        due("a part is no sign of xx", signsOf("xx is a part of yy"), 0);
    }

    @Says("\"X or Y\": X and Y alike, 1.")
    static void termsOr() {
        signIs("xx or yy", 2, 0, 1, 1);
        due("twice", signsOf("xx or or yy"), 0);
        due("nothing between", signsOf("xx yy"), 0);
    }

    @Says("A SIGN's PLACE is that of X.")
    static void termsPlaceIsThatOfX() {
        for (int place = 0; place <= 194; place++) {
            WordTree x = read("\n".repeat(place) + "x or y");
            due("place", x.reason(2, 0, 1, 0, 1), place);
        }
        WordTree x = read("yy such as xx and other yy");
        due("X the one above", x.reason(0, 0, 1, 0, 1), 0);
        due("X the one below", x.reason(0, 0, 1, 1, 1), 11);
    }

    @Says("SIGNS are looked for TOKEN by TOKEN as X")
    static void termsTokenByTokenAsX() {
        WordTree x = read("wa or wb or wc such as wd and other wa");
        due("each Y is X of the next", x.signs(0), 4);
        due("words", x.count(0), 4);
        StringBuilder tight = new StringBuilder("x");
        for (int i = 0; i < 39; i++) {
            tight.append(" or ").append(i % 2 == 0 ? 'y' : 'x');
        }
        x = read(tight + " or ");
        due("the most that 200 bytes have", x.signs(0), 39);
        due("all of one link", x.weight(2, 0, 1), 39);
        due("the last one's place", x.reason(2, 0, 1, 38, 1), 190);
        due("the last one's number", x.reason(2, 0, 1, 38, 0), 38);
        due("behind the last", x.reason(2, 0, 1, 39, 0), NONE);
    }

    @Says("(several may be at one: in the order told here)")
    static void termsNoTwoOfTheFormsAreAtOneToken() {
        for (String form : FORMS) {
            for (String other : FORMS) {
                due("xx " + form + " " + other + " yy", signsOf("xx " + form + " " + other + " yy"), 0);
                due("one behind the other", signsOf("xx " + form + " yy " + other + " zz"), 2);
            }
        }
        WordTree x = read("xx or yy or xx and other yy part of xx such as yy is a kind of xx");
        due("one for each token that is X", x.signs(0), 6);
        int[] places = {0, 6};
        for (int k = 0; k < places.length; k++) {
            due("place of alike " + k, x.reason(2, 0, 1, k, 1), places[k]);
        }
        due("place of xx and other", x.reason(0, 1, 0, 0, 1), 12);
        due("place of part", x.reason(1, 1, 0, 0, 1), 25);
        due("place of such as", x.reason(0, 0, 1, 0, 1), 36);
        due("place of kind of", x.reason(0, 0, 1, 1, 1), 47);
        due("no more", x.reason(0, 0, 1, 2, 1) + x.reason(0, 1, 0, 1, 1) + x.reason(2, 0, 1, 2, 1), 3 * NONE);
    }

    @Says("the WORDS X, then Y come")
    static void termsXComesThenY() {
        WordTree x = read("bb and other aa. cc is a kind of bb. dd such as aa");
        due("X first, though it is below", Checks.spelled(x, 0) + Checks.spelled(x, 1), "bbaa");
        due("then the next X", Checks.spelled(x, 2), "cc");
        due("then the next", Checks.spelled(x, 3), "dd");
        x = read("ee. ff. ee such ff as ee or abcdefghi");
        due("what is in no sign doesn't come", x.count(0), 0);
    }

    private static void signsWith(int words, String bytes, int signs, int then) {
        WordTree x = Checks.withWords(words);
        due("text", Checks.text(x, bytes), 0);
        due(words + " words, signs of " + bytes, x.signs(0), signs);
        due(words + " words, then", x.count(0), then);
    }

    @Says("where there would be more than 24 the SIGN is none")
    static void termsMoreThan24TheSignIsNone() {
        for (String form : FORMS) {
            signsWith(22, "new " + form + " newer", 1, 24);
            signsWith(23, "new " + form + " wa", 1, 24);
            signsWith(23, "wa " + form + " new", 1, 24);
            signsWith(24, "new " + form + " newer", 0, 24);
            signsWith(24, "new " + form + " wa", 0, 24);
            signsWith(24, "wa " + form + " new", 0, 24);
            signsWith(24, "wa " + form + " wx", 1, 24);
            signsWith(24, "wa " + form + " new, wb " + form + " wc, new " + form + " wd, we " + form + " wf", 2, 24);
        }
    }

    @Says("(but X stays, if it came)")
    static void termsXStaysIfItCame() {
        for (String form : FORMS) {
            signsWith(23, "new " + form + " newer", 0, 24);
            WordTree x = Checks.withWords(23);
            Checks.text(x, "new " + form + " newer. newer " + form + " wa. wb " + form + " new");
            due("the sign with X alone", x.signs(0), 1);
            due("X", Checks.spelled(x, 23), "new");
            due("X", Checks.word(x, "new"), 23);
            due("not Y", Checks.word(x, "newer"), NONE);
            due("no weight with those before", x.weight(0, 23, 0) + x.weight(1, 23, 0) + x.weight(2, 23, 0), 0);
            x.back(0);
            due("X stays", Checks.spelled(x, 23), "new");
        }
    }

    @Says("SAYINGS, up to 60")
    static void termsSayingsUpTo60() {
        WordTree x = Checks.withWords(3);
        for (int number = 0; number < 60; number++) {
            due("say", x.say(number % 10, number % 4, 0, 1, 9), number);
        }
        for (int kind = 0; kind <= 3; kind++) {
            due("one more", x.say(0, kind, 0, 1, 9), NONE);
        }
        due("sayings", x.count(2), 60);
        due("weights", x.weight(0, 0, 1) + x.weight(1, 0, 1) + x.weight(2, 0, 1), 405);
    }

    @Says("of persons 0 to 9")
    static void termsPersons0To9() {
        for (int kind = 0; kind <= 3; kind++) {
            WordTree x = Checks.withWords(2);
            for (int person = 0; person <= 9; person++) {
                due("person " + person, x.say(person, kind, 0, 1, 1), person);
                due("who", x.reason(kind, 0, 1, person, 2), kind == 3 ? NONE : person);
            }
            for (int wrong : Checks.beyond(0, 9)) {
                due("person " + wrong, x.say(wrong, kind, 0, 1, 1), NONE);
            }
            due("sayings", x.count(2), 10);
        }
    }

    @Says("x above y, x part of y, x and y alike (weight 1 to 9), or NOT: x isn't above y.")
    static void termsWeight1To9() {
        for (int kind = 0; kind <= 2; kind++) {
            WordTree x = Checks.withWords(2);
            for (int weight = 1; weight <= 9; weight++) {
                due("weight " + weight, x.say(0, kind, 0, 1, weight), weight - 1);
                due("added", x.weight(kind, 0, 1), weight * (weight + 1) / 2);
            }
            for (int wrong : Checks.beyond(1, 9)) {
                due("weight " + wrong, x.say(0, kind, 0, 1, wrong), NONE);
            }
            due("added", x.weight(kind, 0, 1), 45);
        }
    }

    @Says("WEIGHT of a LINK (kind 0 x above y, 1 x part of y, 2 x and y alike, either way)")
    static void termsAlikeEitherWayAlone() {
        for (int kind = 0; kind <= 2; kind++) {
            WordTree x = Checks.withWords(24);
            x.say(0, kind, 0, 23, 4);
            x.say(0, kind, 23, 0, 5);
            due("weight " + kind, x.weight(kind, 0, 23), kind == 2 ? 9 : 4);
            due("turned " + kind, x.weight(kind, 23, 0), kind == 2 ? 9 : 5);
            for (int other = 0; other <= 2; other++) {
                due("beside it", x.weight(other, 0, 22) + x.weight(other, 1, 23) + x.weight(other, 22, 0), 0);
            }
        }
    }

    @Says("of all SIGNS in the TEXTS there are and SAYINGS, added.")
    static void termsTheGreatestWeight() {
        WordTree x = new WordTree();
        for (int text = 0; text < 12; text++) {
            due("text", Checks.text(x, "x is a kind of y.".repeat(11)), text);
        }
        due("weight of texts", x.weight(0, 1, 0), 396);
        for (int i = 0; i < 60; i++) {
            x.say(0, 0, 1, 0, 9);
        }
        due("weight of all", x.weight(0, 1, 0), 936);
        due("sum", x.sum(), 936);
        due("best", x.best(3), 936);
        for (int text = 0; text < 12; text++) {
            x.back(text);
            due("weight", x.weight(0, 1, 0), 903 - 33 * text);
        }
    }

    @Says("REASONS: these, TEXTS by numbers (each by PLACES), then SAYINGS by numbers.")
    static void termsReasonsInTheirOrder() {
        WordTree x = new WordTree();
        x.text(0);
        Checks.text(x, "xx or yy, yy or xx");
        x.say(8, 2, 1, 0, 5);
        Checks.text(x, "  yy or xx");
        x.say(7, 2, 0, 1, 6);
        x.back(0);
        Checks.text(x, "   xx or yy. yy or xx");
        int[] numbers = {0, 1, 100, 101, 200, NONE, NONE, NONE};
        int[] places = {3, 13, 0, 10, 2, NONE, NONE, NONE};
        int[] persons = {NONE, NONE, NONE, NONE, NONE, 8, 7, NONE};
        int[] weights = {1, 1, 1, 1, 1, 5, 6, NONE};
        for (int k = 0; k < 8; k++) {
            due("number " + k, x.reason(2, 0, 1, k, 0), numbers[k]);
            due("place " + k, x.reason(2, 1, 0, k, 1), places[k]);
            due("person " + k, x.reason(2, 0, 1, k, 2), persons[k]);
            due("weight " + k, x.reason(2, 1, 0, k, 3), weights[k]);
        }
    }

    @Says("LINKS of kind 0 with a WEIGHT, the greatest first")
    static void termsTheGreatestFirst() {
        WordTree x = Checks.withWords(4);
        x.say(0, 0, 0, 3, 1);
        due("the least weight is one", x.parent(3), 0);
        x.say(0, 0, 1, 3, 2);
        due("greater", x.parent(3), 1);
        x.say(0, 0, 2, 3, 3);
        due("greater", x.parent(3), 2);
        x.say(0, 0, 0, 3, 3);
        due("greater by two sayings", x.parent(3), 0);
        x.say(0, 1, 1, 3, 9);
        x.say(0, 2, 1, 3, 9);
        due("of kind 0 alone", x.parent(3), 0);
    }

    @Says("of several the lesser x, then y")
    static void termsOfSeveralTheLesserX() {
        WordTree x = Checks.withWords(24);
        for (int i = 22; i >= 0; i--) {
            x.say(0, 0, i, 23, 5);
            due("the lesser x", x.parent(23), i);
        }
        x = Checks.withWords(2);
        x.say(0, 0, 1, 0, 5);
        x.say(0, 0, 0, 1, 5);
        due("of two turned the lesser x", x.parent(1) * 10 + x.why(1, 0), 3);
        x = Checks.withWords(4);
        x.say(0, 0, 3, 1, 9);
        x.say(0, 0, 2, 0, 9);
        x.say(0, 0, 1, 2, 5);
        x.say(0, 0, 0, 3, 5);
        due("the lesser x, though its y is greater", x.parent(3), 0);
        due("what would be a ring then", x.why(1, 2), 3);
    }

    @Says("x becomes the PARENT of y")
    static void termsXBecomesTheParentOfY() {
        for (int last = 1; last < 24; last += 11) {
            WordTree x = Checks.withWords(24);
            x.say(0, 0, last, 0, 1);
            due("x becomes the parent", x.parent(0) * 100 + x.why(last, 0), last * 100);
            due("y doesn't", x.parent(last), NONE);
            due("nor has another one", x.count(4), 1);
            x = Checks.withWords(24);
            x.say(0, 0, 0, last, 1);
            due("the other way", x.parent(last) * 100 + x.why(0, last), 0);
            due("its parent has none", x.parent(0), NONE);
        }
        WordTree x = Checks.withWords(24);
        for (int y = 1; y < 24; y++) {
            x.say(0, 0, 0, y, 1);
            due("one may be the parent of many", x.count(4), y);
        }
    }

    @Says("if the first of these that bars it doesn't: 1 (no WEIGHT)")
    static void termsBar1() {
        WordTree x = Checks.withWords(24);
        due("nothing at all", x.why(0, 23), 1);
        due("nothing at all", x.why(23, 0), 1);
        x.say(0, 0, 1, 2, 9);
        due("it has a parent, but no weight", x.why(0, 2), 1);
        due("a ring, but no weight", x.why(2, 1), 1);
        x.say(0, 3, 3, 4, 0);
        due("a not, but no weight", x.why(3, 4), 1);
        x.say(0, 1, 5, 6, 9);
        x.say(0, 2, 5, 6, 9);
        due("a weight of other kinds", x.why(5, 6), 1);
        Checks.text(x, "wa such as wb");
        due("weight", x.why(0, 1), 0);
        x.back(0);
        due("weight taken back", x.why(0, 1), 1);
    }

    @Says("2 y has a PARENT")
    static void termsBar2() {
        WordTree x = Checks.withWords(4);
        x.say(0, 0, 0, 1, 9);
        x.say(0, 0, 1, 2, 9);
        x.say(0, 0, 3, 1, 5);
        due("a parent", x.why(3, 1), 2);
        x.say(0, 0, 2, 1, 5);
        due("a parent, before a ring", x.why(2, 1), 2);
        x.say(0, 3, 3, 1, 5);
        due("a parent, before a not", x.why(3, 1), 2);
        x.say(0, 3, 0, 1, 5);
        due("no parent then", x.why(0, 1), 4);
        due("a ring then", x.why(2, 1), 3);
        due("a not then", x.why(3, 1), 4);
    }

    @Says("3 y is x's PARENT or above it")
    static void termsBar3() {
        WordTree x = Checks.withWords(24);
        for (int i = 0; i < 23; i++) {
            x.say(0, 0, i, i + 1, 9);
        }
        x.say(0, 0, 1, 0, 1);
        x.say(0, 0, 2, 0, 1);
        x.say(0, 0, 23, 0, 8);
        due("its parent", x.why(1, 0), 3);
        due("its parent's parent", x.why(2, 0), 3);
        due("above by 23 steps", x.why(23, 0), 3);
        x.say(0, 3, 1, 0, 0);
        due("a ring, before a not", x.why(1, 0), 3);
        due("links", x.count(4), 23);
        x.say(0, 3, 5, 6, 0);
        due("above it no more", x.why(23, 0), 0);
    }

    @Says("4 some NOT p, q is there, p being x or above it so far, q being y or below it so far.")
    static void termsBar4() {
        for (int p = 0; p <= 2; p++) {
            for (int q = 3; q <= 5; q++) {
                WordTree x = Checks.withWords(6);
                x.say(0, 0, 0, 1, 9);
                x.say(0, 0, 1, 2, 9);
                x.say(0, 0, 3, 4, 9);
                x.say(0, 0, 4, 5, 9);
                x.say(0, 0, 2, 3, 1);
                due("no not", x.why(2, 3), 0);
                x.say(0, 3, q, p, 0);
                due("a not the other way", x.why(2, 3), 0);
                x.say(0, 3, p, q, 0);
                due("a not of " + p + " " + q, x.why(2, 3), 4);
                due("no parent", x.parent(3), NONE);
                due("the others stay", x.count(4), 4);
            }
        }
    }

    @Says("p being x or above it so far, q being y or below it so far")
    static void termsBar4SoFar() {
        WordTree x = Checks.withWords(4);
        x.say(0, 3, 0, 2, 0);
        x.say(0, 0, 1, 2, 5);
        x.say(0, 0, 0, 1, 4);
        due("p isn't above it so far", x.why(1, 2), 0);
        due("q is below it so far", x.why(0, 1), 4);
        x.say(0, 0, 0, 1, 2);
        due("q isn't below it so far", x.why(0, 1), 0);
        due("p is above it so far", x.why(1, 2), 4);
        x.say(0, 0, 3, 2, 1);
        due("it stays what barred it", x.why(1, 2), 4);
        due("though another becomes the parent", x.parent(2), 3);
    }

    @Says("ABOVE: PARENT, PARENT's PARENT, and so on.")
    static void termsAboveByAllSteps() {
        WordTree x = Checks.withWords(24);
        for (int i = 0; i < 23; i++) {
            x.say(0, 0, i + 1, i, 1 + i * 5 % 9);
        }
        for (int i = 0; i < 24; i++) {
            due("the last above", x.above(23, i), i < 23 ? 1 : 0);
            due("the first above", x.above(0, i), 0);
            due("above the middle", x.above(i, 11), i > 11 ? 1 : 0);
        }
    }

    @Says("BEST of a set of up to 6 WORDS: the greatest sum of WEIGHTS of LINKS of kind 0 among these")
    static void termsBestOfUpTo6() {
        WordTree x = Checks.withWords(24);
        for (int i = 0; i < 23; i++) {
            x.say(0, 0, i, i + 1, 9);
        }
        x.say(0, 1, 1, 0, 9);
        x.say(0, 2, 1, 0, 9);
        for (int many = 0; many <= 8; many++) {
            int due = many == 0 ? 0 : many <= 6 ? 9 * (many - 1) : NONE;
            due("the first " + many, x.best((1 << many) - 1), due);
            due("the last " + many, x.best((1 << many) - 1 << 24 - many), due);
        }
        due("links of others count for nothing", x.best(1 << 0 | 1 << 2 | 1 << 4 | 1 << 5), 9);
    }

    @Says("by which none has two PARENTS, there is no ring, and no NOT of two of them is brought.")
    static void termsBestWithoutTwoParents() {
        WordTree x = Checks.withWords(6);
        for (int i = 0; i < 5; i++) {
            x.say(0, 0, i, 5, 4 + i);
        }
        due("one parent of five", x.best(63), 8);
        due("one parent of two", x.best(1 | 2 | 32), 5);
    }

    @Says("by which none has two PARENTS, there is no ring, and no NOT of two of them is brought.")
    static void termsBestWithoutARing() {
        WordTree x = Checks.withWords(6);
        for (int i = 0; i < 6; i++) {
            x.say(0, 0, i, (i + 1) % 6, 4 + i);
        }
        due("a ring of six less its least", x.best(63), 5 + 6 + 7 + 8 + 9);
        x.say(0, 0, 1, 0, 1);
        due("a ring of two", x.best(3), 4);
    }

    @Says("by which none has two PARENTS, there is no ring, and no NOT of two of them is brought.")
    static void termsBestWithoutANot() {
        WordTree x = Checks.withWords(7);
        for (int i = 0; i < 5; i++) {
            x.say(0, 0, i, i + 1, 9 - i);
        }
        due("a chain of six", x.best(63), 35);
        x.say(0, 3, 5, 0, 0);
        due("a not the other way", x.best(63), 35);
        x.say(0, 3, 6, 5, 0);
        x.say(0, 0, 6, 0, 3);
        due("a not of others", x.best(63), 35);
        due("a not of others that are among them", x.best(1 | 2 | 64), 12);
        x.say(0, 3, 0, 5, 0);
        due("a not over the whole chain", x.best(63), 30);
        due("two of them aren't both there", x.best(31), 30);
        due("nor brought where one between is wanting", x.best(63 - 4), 9 + 6 + 5);
        x.say(0, 3, 0, 1, 0);
        due("a not of a link", x.best(3), 0);
    }

    @Says("by which none has two PARENTS, there is no ring, and no NOT of two of them is brought.")
    static void termsBestWithSeveralNots() {
        WordTree x = Checks.withWords(8);
        x.say(0, 0, 0, 2, 9);
        x.say(0, 0, 1, 2, 8);
        x.say(0, 0, 4, 6, 9);
        x.say(0, 0, 5, 6, 8);
        x.say(0, 3, 0, 2, 0);
        due("a not, and another parent", x.best(7), 8);
        x.say(0, 3, 1, 2, 0);
        due("two nots below one word", x.best(7), 0);
        due("those of one set count for no other", x.best(7 << 4), 9);
        due("nor for one with some of it", x.best(1 << 3 | 7 << 4), 9);
        x.say(0, 3, 4, 6, 0);
        x.say(0, 3, 4, 7, 0);
        due("two nots of one word above", x.best(7 << 4), 8);
        due("the first set as before", x.best(7), 0);
    }

    @Says("WAY of two WORDS: steps from one up to the nearest that is it or above it and the other or above that, "
            + "and down; none without one.")
    static void termsWayNoneWithoutOne() {
        WordTree x = Checks.withWords(6);
        due("no links", x.way(0, 1), NONE);
        due("to itself", x.way(0, 0), 0);
        x.say(0, 0, 0, 1, 9);
        x.say(0, 0, 1, 2, 9);
        x.say(0, 0, 1, 3, 9);
        x.say(0, 0, 4, 5, 9);
        due("down", x.way(0, 2), 2);
        due("up", x.way(2, 0), 2);
        due("by the nearest, not the highest", x.way(2, 3), 2);
        due("from another tree", x.way(2, 5), NONE);
        x.say(0, 2, 2, 5, 9);
        x.say(0, 1, 2, 5, 9);
        due("alike and part are no steps", x.way(2, 5), NONE);
    }

    @Says("NEIGHBOURS of a WORD: its PARENT, those whose PARENT it is, those alike (with a WEIGHT).")
    static void termsNeighbours() {
        WordTree x = Checks.withWords(24);
        due("none", x.shared(0, 0), 0);
        x.say(0, 0, 1, 0, 9);
        due("its parent", x.shared(0, 0), 1);
        due("whose parent it is", x.shared(1, 1), 1);
        x.say(0, 2, 23, 0, 1);
        due("alike", x.shared(0, 0), 2);
        due("alike, either way", x.shared(23, 23), 1);
        due("one shared", x.shared(1, 23), 1);
        x.say(0, 2, 0, 1, 1);
        due("parent and alike is one", x.shared(0, 0), 2);
        x.say(0, 1, 5, 0, 1);
        x.say(0, 0, 6, 0, 1);
        x.say(0, 3, 7, 0, 1);
        due("part, a barred link and a not are none", x.shared(0, 0), 2);
        x.say(0, 1, 23, 0, 9);
        x.say(0, 1, 0, 23, 9);
        due("nor is part of the last", x.shared(0, 0) * 10 + x.shared(23, 23), 21);
        Checks.text(x, "wa or wi");
        due("alike by a text", x.shared(0, 0), 3);
        x.back(0);
        due("with a weight alone", x.shared(0, 0), 2);
        for (int i = 1; i < 24; i++) {
            x.say(0, 2, 0, i, 1);
        }
        due("all others", x.shared(0, 0), 23);
    }

    @Says("SENSES of a WORD: into how many parts its NEIGHBOURS fall, two being in one part if they are NEIGHBOURS of "
            + "one another, or of one behind the other of such NEIGHBOURS of it.")
    static void termsSensesFromNoneTo23() {
        WordTree x = Checks.withWords(24);
        due("no neighbours", x.senses(11), 0);
        int parts = 0;
        for (int i = 0; i < 24; i++) {
            if (i != 11) {
                x.say(0, 2, 11, i, 1);
                parts++;
                due("each apart", x.senses(11), parts);
            }
        }
        // 0-2-4-..-22 and 1-3-..-23 without 11, so the odd ones fall into 1..9 and 13..23.
        for (int i = 0; i + 2 < 24; i++) {
            if (i != 11 && i + 2 != 11) {
                x.say(0, 2, i + 2, i, 1);
            }
        }
        due("one behind the other", x.senses(11), 3);
        due("of one at its end", x.senses(0), 1);
    }

    @Says("two being in one part if they are NEIGHBOURS of one another, or of one behind the other of such NEIGHBOURS "
            + "of it.")
    static void termsSensesByALongRowAgainstTheNumbers() {
        WordTree x = Checks.withWords(24);
        for (int i = 1; i < 24; i++) {
            x.say(0, 2, 0, i, 1);
        }
        x.say(0, 2, 1, 23, 1);
        for (int i = 23; i > 2; i--) {
            due("the rest apart", x.senses(0), i - 1);
            x.say(0, 2, i, i - 1, 1);
        }
        due("1, 23, 22, .., 2", x.senses(0), 1);
    }

    @Says("two being in one part if they are NEIGHBOURS of one another, or of one behind the other of such NEIGHBOURS "
            + "of it.")
    static void termsSensesByItsNeighboursAlone() {
        WordTree x = Checks.withWords(5);
        x.say(0, 2, 0, 1, 1);
        x.say(0, 2, 0, 2, 1);
        x.say(0, 2, 1, 3, 1);
        x.say(0, 2, 3, 2, 1);
        due("by one that isn't its neighbour", x.senses(0), 2);
        x.say(0, 0, 3, 0, 1);
        due("by one that is", x.senses(0), 1);
    }

    @Says("A KEPT picture of THE TREE is laid over it")
    static void termsThePictureStaysWhileTheTreeChanges() {
        WordTree x = Checks.withWords(4);
        Checks.text(x, "wa such as wb. wb such as wc");
        due("keep", x.keep(), 2);
        x.back(0);
        due("nothing of it is left", x.count(4), 0);
        due("the picture has it", x.over(1), 2);
        x.say(0, 0, 0, 3, 1);
        due("what came behind isn't in the picture", x.over(2), 1);
        Checks.text(x, "wa such as wb");
        due("it is laid over what is there now", x.over(0) * 100 + x.over(1) * 10 + x.over(2), 111);
        due("a new word changes no picture", Checks.word(x, "we") * 10 + x.over(0), 41);
        Checks.text(x, "wb such as wc. wc part of wa. wc or wa");
        due("all of the picture is there again", x.over(0) * 100 + x.over(1) * 10 + x.over(2), 201);
        due("none of it was turned", x.over(3), 0);
    }

    @Says("LINKS that both have; that the picture has alone, that THE TREE has alone; those turned about (x the PARENT "
            + "of y in one, y above x in the other).")
    static void termsTurnedAboutByAllSteps() {
        WordTree x = Checks.withWords(24);
        for (int i = 0; i < 23; i++) {
            x.say(0, 0, i, i + 1, 1);
        }
        due("keep", x.keep(), 23);
        for (int i = 0; i < 23; i++) {
            x.say(0, 0, i + 1, i, 2);
            due("both", x.over(0), 22 - i);
            due("picture alone", x.over(1), i + 1);
            due("tree alone", x.over(2), i + 1);
            due("turned", x.over(3), i + 1);
        }
    }
}
