import java.util.ArrayList;
import java.util.List;
import java.util.function.Consumer;
import java.util.function.Function;
import java.util.function.ToIntFunction;

/** Shows that calls did nothing: of two objects made alike one is given the calls, and then both are asked everything. */
final class Twins {
    /** A new pair is made for so many questions: past its 512th call what an object answers is free. */
    private static final int AT_ONCE = 180;

    private record Question(String name, ToIntFunction<WordTree> ask) {
    }

    private record Probe(String name, Function<WordTree, String> calls) {
    }

    private Twins() {
    }

    static void unmoved(World world, Consumer<WordTree> refused) {
        alike(world, refused, x -> { });
    }

    static void alike(World world, Consumer<WordTree> one, Consumer<WordTree> other) {
        List<Question> all = questions(world.words);
        for (int from = 0; from < all.size(); from += AT_ONCE) {
            WordTree a = made(world, one);
            WordTree b = made(world, other);
            for (Question each : all.subList(from, Math.min(from + AT_ONCE, all.size()))) {
                Checks.due(world + " then " + each.name, each.ask.applyAsInt(a), each.ask.applyAsInt(b));
            }
        }
        for (Probe each : probes()) {
            String got = each.calls.apply(made(world, one));
            Checks.due(world + " then " + each.name, got, each.calls.apply(made(world, other)));
        }
    }

    private static WordTree made(World world, Consumer<WordTree> calls) {
        WordTree x = world.make();
        calls.accept(x);
        return x;
    }

    /** Whatever can be asked without changing anything, one word beyond those that are there too. */
    private static List<Question> questions(int words) {
        List<Question> all = new ArrayList<>();
        for (int i = -1; i <= 6; i++) {
            int what = i;
            all.add(new Question("count " + what, x -> x.count(what)));
            all.add(new Question("over " + what, x -> x.over(what)));
        }
        all.add(new Question("sum", WordTree::sum));
        for (int i = -1; i <= 12; i++) {
            int text = i;
            all.add(new Question("signs " + text, x -> x.signs(text)));
        }
        for (int a = 0; a <= words; a++) {
            ofWord(all, a);
            for (int b = 0; b <= words; b++) {
                ofPair(all, a, b);
            }
        }
        return all;
    }

    private static void ofWord(List<Question> all, int word) {
        all.add(new Question("parent " + word, x -> x.parent(word)));
        all.add(new Question("senses " + word, x -> x.senses(word)));
        all.add(new Question("best of six from " + word, x -> x.best(63 << word)));
        for (int i = -1; i <= 8; i++) {
            int k = i;
            all.add(new Question("letter " + word + " " + k, x -> x.letter(word, k)));
            all.add(new Question("below " + word + " " + k, x -> x.below(word, k)));
        }
    }

    private static void ofPair(List<Question> all, int a, int b) {
        String pair = " " + a + " " + b;
        all.add(new Question("why" + pair, x -> x.why(a, b)));
        all.add(new Question("above" + pair, x -> x.above(a, b)));
        all.add(new Question("meets" + pair, x -> x.meets(a, b)));
        all.add(new Question("way" + pair, x -> x.way(a, b)));
        all.add(new Question("shared" + pair, x -> x.shared(a, b)));
        all.add(new Question("best of two" + pair, x -> x.best(1 << a | 1 << b)));
        for (int i = 0; i <= 2; i++) {
            int kind = i;
            all.add(new Question("weight " + kind + pair, x -> x.weight(kind, a, b)));
            for (int j = 0; j < 8; j++) {
                int k = j / 4;
                int what = j % 4;
                all.add(new Question("reason " + kind + pair + " " + k + " " + what,
                        x -> x.reason(kind, a, b, k, what)));
            }
        }
    }

    /** What only a further change shows: the tape's bytes, and the numbers that come next. */
    private static List<Probe> probes() {
        List<Probe> all = new ArrayList<>();
        all.add(new Probe("feed", x -> x.feed(1, 2, 3, 4, 5) + " " + x.count(3)));
        all.add(new Probe("text 0", x -> x.text(0) + " " + x.text(0) + " " + x.count(3)));
        all.add(new Probe("the tape's signs", Twins::tapeAsText));
        for (int i = 1; i <= 9; i++) {
            int n = i;
            all.add(new Probe("word " + n, x -> x.word(n) + " " + x.count(0) + " " + Checks.spelled(x, x.count(0) - 1)));
        }
        for (int i = 0; i < 12; i++) {
            int text = i;
            all.add(new Probe("back " + text, x -> x.back(text) + " " + x.sum() + " " + x.count(1) + " " + x.count(5)));
        }
        all.add(new Probe("say", x -> x.say(0, 0, 0, 1, 9) + " " + x.sum() + " " + x.weight(0, 0, 1)));
        all.add(new Probe("say not", x -> x.say(0, 3, 0, 1, 9) + " " + x.sum() + " " + x.why(0, 1)));
        all.add(new Probe("keep", x -> x.keep() + " " + x.over(0) + " " + x.over(1) + " " + x.over(2)));
        return all;
    }

    private static String tapeAsText(WordTree x) {
        x.back(0);
        int text = x.text(x.count(3));
        StringBuilder told = new StringBuilder(text + " " + x.signs(text) + " " + x.count(0));
        for (int a = 0; a < 5; a++) {
            for (int b = 0; b < 5; b++) {
                for (int kind = 0; kind <= 2; kind++) {
                    told.append(' ').append(x.weight(kind, a, b)).append(' ').append(x.reason(kind, a, b, 0, 1));
                }
            }
        }
        return told.toString();
    }
}
