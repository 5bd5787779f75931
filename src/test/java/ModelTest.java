/** Long runs of made-up calls, each answer compared with the model's. The runs are the same every time. */
public final class ModelTest {
    private static final int RUNS = 600;
    /** Past its 512th call what an object answers is free, and one step makes up to twelve. */
    private static final int CALLS = 500;
    private static final String[] SMALL = {"such", "as", "and", "other", "is", "a", "kind", "of", "part", "or"};
    private static final String[] FORMS = {"such as", "and other", "is a kind of", "part of", "or"};
    private static final String[] GAPS = {" ", " ", " ", " ", " ", " ", " ", "  ", "\n", " \n ", ", ", ".", "\t", " 1 ", "X"};
    private static final int[] ODD = {-1, -2, 0, 1, 5, 6, 9, 10, 11, 12, 23, 24, 25, 31, 32, 60, 200, 201,
            Integer.MIN_VALUE, Integer.MAX_VALUE};

    private final WordTree tree = new WordTree();
    private final Model model = new Model();
    private final int vocabulary;
    private long state;

    private ModelTest(int seed) {
        state = seed * 0x9E3779B97F4A7C15L + 12345;
        vocabulary = 3 + below(28);
    }

    public static void main(String[] args) {
        for (int seed = 0; seed < RUNS && !Checks.anyWrong(); seed++) {
            Checks.section("run " + seed);
            ModelTest run = new ModelTest(seed);
            int before = Checks.done();
            while (Checks.done() - before < CALLS) {
                run.step();
            }
        }
        Checks.finish();
    }

    private int below(int bound) {
        state = state * 6364136223846793005L + 1442695040888963407L;
        return (int) ((state >>> 33) % bound);
    }

    private boolean oneIn(int many) {
        return below(many) == 0;
    }

    /** Mostly a number from 0 up, now and then an odd one. */
    private int number(int bound) {
        if (oneIn(25)) {
            return ODD[below(ODD.length)];
        }
        return below(bound);
    }

    private int someWord() {
        return number(Math.max(1, model.count(0)));
    }

    private String name(int i) {
        String letters = "" + (char) ('a' + i % 26) + (char) ('a' + i / 2 % 26);
        return i % 9 == 8 ? letters + "bcdefg" : i % 7 == 6 ? letters.substring(0, 1) + "q" : letters;
    }

    private String token() {
        if (oneIn(30)) {
            return SMALL[below(SMALL.length)];
        }
        return oneIn(40) ? "abcdefghi" : name(below(vocabulary));
    }

    private String sentence() {
        StringBuilder bytes = new StringBuilder(token());
        for (int i = below(8); i >= 0; i--) {
            for (String one : FORMS[below(FORMS.length)].split(" ")) {
                bytes.append(GAPS[below(oneIn(4) ? GAPS.length : 9)]).append(oneIn(60) ? token() : one);
            }
            bytes.append(GAPS[below(oneIn(4) ? GAPS.length : 9)]).append(token());
            if (oneIn(3)) {
                bytes.append(". ").append(token());
            }
        }
        return bytes.substring(0, Math.min(bytes.length(), 200));
    }

    private void feed(String bytes) {
        StringBuilder all = new StringBuilder(bytes);
        while (all.length() % 20 != 0) {
            all.append(oneIn(3) ? (char) below(256) : ' ');
        }
        for (int at = 0; at < all.length(); at += 20) {
            int[] n = new int[5];
            for (int i = 0; i < 20; i++) {
                n[i / 4] = n[i / 4] << 8 | all.charAt(at + i);
            }
            Checks.due("feed", tree.feed(n[0], n[1], n[2], n[3], n[4]), model.feed(n));
        }
    }

    private void step() {
        int choice = below(60);
        if (choice < 3) {
            putText();
        } else if (choice < 5) {
            putWord();
        } else if (choice < 12) {
            putSaying();
        } else if (choice < 14) {
            int text = number(12);
            if (oneIn(2)) {
                Checks.due("back " + text, tree.back(text), model.back(text));
            }
        } else if (choice < 16) {
            feed(oneIn(2) ? "" : token());
        } else {
            ask(choice % 17);
        }
    }

    private void putText() {
        String bytes = sentence();
        feed(bytes);
        int n = oneIn(12) ? number(201) : bytes.length();
        Checks.due("text " + n, tree.text(n), model.text(n));
    }

    private void putWord() {
        String bytes = token();
        if (model.count(3) > 0) {
            Checks.due("word to empty the tape", tree.word(0), model.word(0));
        }
        feed(bytes);
        int n = oneIn(8) ? number(12) : bytes.length();
        Checks.due("word " + n, tree.word(n), model.word(n));
    }

    private void putSaying() {
        int person = number(10);
        int kind = oneIn(3) ? number(4) : 0;
        int x = someWord();
        int y = someWord();
        int weight = 1 + number(9);
        if (oneIn(2)) {
            // Some runs have few sayings for long, so that texts weigh more.
            return;
        }
        Checks.due("say " + kind, tree.say(person, kind, x, y, weight), model.say(person, kind, x, y, weight));
    }

    private void ask(int which) {
        int x = someWord();
        int y = someWord();
        switch (which) {
            case 0 -> Checks.due("signs", tree.signs(x), model.signs(x));
            case 1 -> askLetters(x);
            case 2 -> askWeight(x, y);
            case 3 -> askReasons(x, y);
            case 4 -> Checks.due("parent", tree.parent(x), model.parent(x));
            case 5, 6 -> Checks.due("why " + x + " " + y, tree.why(x, y), model.why(x, y));
            case 7 -> Checks.due("above", tree.above(x, y), model.above(x, y));
            case 8 -> askBelow(x);
            case 9 -> Checks.due("meets", tree.meets(x, y), model.meets(x, y));
            case 10 -> Checks.due("way", tree.way(x, y), model.way(x, y));
            case 11 -> Checks.due("shared", tree.shared(x, y), model.shared(x, y));
            case 12 -> Checks.due("senses", tree.senses(x), model.senses(x));
            case 13 -> Checks.due("sum", tree.sum(), model.sum());
            case 14 -> askBest();
            case 15 -> askPicture();
            default -> askCount();
        }
    }

    private void askLetters(int x) {
        int i = number(9) - 1;
        Checks.due("letter " + i, tree.letter(x, i), model.letter(x, i));
    }

    private void askWeight(int x, int y) {
        int kind = number(3);
        Checks.due("weight " + kind, tree.weight(kind, x, y), model.weight(kind, x, y));
    }

    private void askReasons(int x, int y) {
        int kind = number(3);
        int k = oneIn(2) ? 0 : number(4);
        for (int what = -1; what <= 4; what++) {
            Checks.due("reason " + what, tree.reason(kind, x, y, k, what), model.reason(kind, x, y, k, what));
        }
    }

    private void askBelow(int x) {
        int k = number(4) - 1;
        Checks.due("below " + k, tree.below(x, k), model.below(x, k));
    }

    private void askBest() {
        int set = 0;
        for (int i = below(8); i > 0; i--) {
            set |= 1 << someWord();
        }
        Checks.due("best " + set, tree.best(set), model.best(set));
    }

    private void askPicture() {
        if (oneIn(4)) {
            Checks.due("keep", tree.keep(), model.keep());
        } else {
            int what = number(4);
            Checks.due("over " + what, tree.over(what), model.over(what));
        }
    }

    private void askCount() {
        int what = number(6);
        Checks.due("count " + what, tree.count(what), model.count(what));
    }
}
