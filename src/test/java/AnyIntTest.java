/** Every place of every call at the least, the greatest and other ends, in all their joinings, against the model. */
public final class AnyIntTest {
    private static final int[] ENDS = {Integer.MIN_VALUE, Integer.MIN_VALUE + 1, -2, -1, 0, 1, 2, 3, 4, 9, 10, 23, 24, 60,
        Integer.MAX_VALUE};
    private static final int[] FEW = {Integer.MIN_VALUE, -1, 0, 1, 3, 9, 10, 24, Integer.MAX_VALUE};
    /** Past its 512th call what an object answers is free: then a new pair takes their place. */
    private static final int CALLS = 500;

    private final int words;
    private WordTree tree;
    private Model model;
    private int calls = CALLS;

    private AnyIntTest(int words) {
        this.words = words;
    }

    public static void main(String[] args) {
        for (int words : new int[] {0, 1, 4, 10, 24}) {
            Checks.section("any int, " + words + " words");
            AnyIntTest test = new AnyIntTest(words);
            test.oneNumber();
            test.twoNumbers();
            test.threeNumbers();
            test.fiveNumbers();
            test.tapes();
        }
        Checks.finish();
    }

    private void due(String call, int got, int want) {
        calls++;
        Checks.due(call, got, want);
    }

    /** A pair with words, a text and sayings, if the old one has had its calls. */
    private void renew() {
        if (calls < CALLS) {
            return;
        }
        calls = 0;
        tree = new WordTree();
        model = new Model();
        for (int i = 0; i < words; i++) {
            feed("w" + (char) ('a' + i) + "!".repeat(18));
            due("word", tree.word(2), model.word(2));
        }
        feed("wa or wb, wb such as");
        feed(" wc, wd part of wa!!");
        due("text", tree.text(40), model.text(40));
        for (int i = 0; i < words; i++) {
            int other = (i * 5 + 1) % words;
            due("say", tree.say(i % 10, i % 4, i, other, 1 + i % 9), model.say(i % 10, i % 4, i, other, 1 + i % 9));
        }
        due("keep", tree.keep(), model.keep());
    }

    private void feed(String bytes) {
        int[] n = new int[5];
        for (int i = 0; i < 20; i++) {
            n[i / 4] = n[i / 4] << 8 | bytes.charAt(i);
        }
        feed(n);
    }

    private void feed(int... n) {
        due("feed", tree.feed(n[0], n[1], n[2], n[3], n[4]), model.feed(n));
    }

    private void oneNumber() {
        for (int a : ENDS) {
            renew();
            due("signs " + a, tree.signs(a), model.signs(a));
            due("parent " + a, tree.parent(a), model.parent(a));
            due("senses " + a, tree.senses(a), model.senses(a));
            due("best " + a, tree.best(a), model.best(a));
            due("over " + a, tree.over(a), model.over(a));
            due("count " + a, tree.count(a), model.count(a));
            due("back " + a, tree.back(a) ? 1 : 0, model.back(a) ? 1 : 0);
            due("sum", tree.sum(), model.sum());
            due("best of bit " + a, tree.best(1 << a), model.best(1 << a));
        }
    }

    private void twoNumbers() {
        for (int a : ENDS) {
            for (int b : ENDS) {
                renew();
                String told = " " + a + " " + b;
                due("letter" + told, tree.letter(a, b), model.letter(a, b));
                due("why" + told, tree.why(a, b), model.why(a, b));
                due("above" + told, tree.above(a, b), model.above(a, b));
                due("below" + told, tree.below(a, b), model.below(a, b));
                due("meets" + told, tree.meets(a, b), model.meets(a, b));
                due("way" + told, tree.way(a, b), model.way(a, b));
                due("shared" + told, tree.shared(a, b), model.shared(a, b));
            }
        }
    }

    private void threeNumbers() {
        for (int a : ENDS) {
            for (int b : ENDS) {
                for (int c : ENDS) {
                    renew();
                    due("weight " + a + " " + b + " " + c, tree.weight(a, b, c), model.weight(a, b, c));
                }
            }
        }
    }

    private void fiveNumbers() {
        int all = FEW.length * FEW.length * FEW.length * FEW.length * FEW.length;
        for (int i = 0; i < all; i++) {
            int a = FEW[i % 9];
            int b = FEW[i / 9 % 9];
            int c = FEW[i / 81 % 9];
            int d = FEW[i / 729 % 9];
            int e = FEW[i / 6561];
            renew();
            String told = " " + a + " " + b + " " + c + " " + d + " " + e;
            due("reason" + told, tree.reason(a, b, c, d, e), model.reason(a, b, c, d, e));
            due("say" + told, tree.say(a, b, c, d, e), model.say(a, b, c, d, e));
        }
    }

    /** What may be on the tape: any numbers; what may be asked of it: any n. */
    private void tapes() {
        for (int a : ENDS) {
            for (int n : new int[] {Integer.MIN_VALUE, -1, 0, 1, 8, 19, 20, 21, 200, 201, Integer.MAX_VALUE}) {
                renew();
                feed(a, n, ~a, a ^ n, -n);
                due("text " + n, tree.text(n), model.text(n));
                feed(n, a, 0x62626262, a, n);
                due("word " + n, tree.word(n), model.word(n));
                due("bytes", tree.count(3), model.count(3));
                due("words", tree.count(0), model.count(0));
            }
        }
    }
}
