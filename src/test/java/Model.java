import java.util.ArrayList;
import java.util.Arrays;
import java.util.HashSet;
import java.util.List;
import java.util.Set;
import java.util.TreeMap;
import java.util.TreeSet;
import java.util.regex.Matcher;
import java.util.regex.Pattern;

/** The document written down a second time, as simply as can be: nothing is kept that can be worked out. */
final class Model {
    private static final int NONE = -1;
    private static final Set<String> SMALL = Set.of("such", "as", "and", "other", "is", "a", "kind", "of", "part", "or");
    private static final Pattern LETTERS = Pattern.compile("[a-z]+");
    private static final String[] FORMS = {"such as", "and other", "is a kind of", "part of", "or"};

    private record Reason(int kind, int x, int y, int weight, int place, int person) {
        boolean isOf(int k, int a, int b) {
            return k == kind && (a == x && b == y || k == 2 && a == y && b == x);
        }
    }

    private record Link(int x, int y, int weight) {
    }

    private String tape = "";
    private final List<String> words = new ArrayList<>();
    private final TreeMap<Integer, List<Reason>> texts = new TreeMap<>();
    private final List<Reason> sayings = new ArrayList<>();
    private int[] kept;

    int feed(int... numbers) {
        if (tape.length() + 20 > 200) {
            return NONE;
        }
        for (int number : numbers) {
            for (int i = 3; i >= 0; i--) {
                tape += (char) (number >> 8 * i & 255);
            }
        }
        return tape.length();
    }

    int text(int n) {
        if (n < 0 || n > tape.length() || texts.size() == 12) {
            return NONE;
        }
        int number = 0;
        while (texts.containsKey(number)) {
            number++;
        }
        texts.put(number, signsIn(tape.substring(0, n)));
        tape = "";
        return number;
    }

    private List<Reason> signsIn(String bytes) {
        List<Reason> found = new ArrayList<>();
        Matcher tokens = LETTERS.matcher(bytes);
        while (tokens.find()) {
            for (int form = 0; form < FORMS.length; form++) {
                String between = "[ \n]+" + FORMS[form].replace(" ", "[ \n]+") + "[ \n]+([a-z]+)";
                Matcher rest = Pattern.compile(between).matcher(bytes).region(tokens.end(), bytes.length());
                if (rest.lookingAt()) {
                    addSign(found, form, tokens.group(), rest.group(1), tokens.start());
                }
            }
        }
        return found;
    }

    private void addSign(List<Reason> found, int form, String first, String second, int place) {
        if (!mayBe(first) || !mayBe(second) || first.equals(second)) {
            return;
        }
        int x = come(first);
        if (x == NONE) {
            return;
        }
        int y = come(second);
        if (y == NONE) {
            return;
        }
        switch (form) {
            case 0 -> found.add(new Reason(0, x, y, 2, place, NONE));
            case 1 -> found.add(new Reason(0, y, x, 2, place, NONE));
            case 2 -> found.add(new Reason(0, y, x, 3, place, NONE));
            case 3 -> found.add(new Reason(1, x, y, 1, place, NONE));
            default -> found.add(new Reason(2, x, y, 1, place, NONE));
        }
    }

    private static boolean mayBe(String bytes) {
        return bytes.matches("[a-z]{1,8}") && !bytes.endsWith("\n") && !SMALL.contains(bytes);
    }

    private int come(String bytes) {
        if (!words.contains(bytes)) {
            if (words.size() == 24) {
                return NONE;
            }
            words.add(bytes);
        }
        return words.indexOf(bytes);
    }

    boolean back(int text) {
        return texts.remove(text) != null;
    }

    int signs(int text) {
        return texts.containsKey(text) ? texts.get(text).size() : NONE;
    }

    int word(int n) {
        if (n < 0 || n > tape.length()) {
            return -2;
        }
        String bytes = tape.substring(0, n);
        tape = "";
        return mayBe(bytes) ? come(bytes) : NONE;
    }

    int letter(int word, int i) {
        if (!has(word) || i < NONE || i >= words.get(word).length()) {
            return NONE;
        }
        return i == NONE ? words.get(word).length() : words.get(word).charAt(i);
    }

    private boolean has(int word) {
        return word >= 0 && word < words.size();
    }

    int say(int person, int kind, int x, int y, int weight) {
        if (person < 0 || person > 9 || kind < 0 || kind > 3 || !has(x) || !has(y) || x == y || sayings.size() == 60) {
            return NONE;
        }
        if (kind < 3 && (weight < 1 || weight > 9)) {
            return NONE;
        }
        sayings.add(new Reason(kind, x, y, weight, NONE, person));
        return sayings.size() - 1;
    }

    private boolean isLink(int kind, int x, int y) {
        return kind >= 0 && kind <= 2 && has(x) && has(y) && x != y;
    }

    int weight(int kind, int x, int y) {
        if (!isLink(kind, x, y)) {
            return NONE;
        }
        int added = 0;
        for (List<Reason> signs : texts.values()) {
            added += signs.stream().filter(r -> r.isOf(kind, x, y)).mapToInt(Reason::weight).sum();
        }
        return added + sayings.stream().filter(r -> r.isOf(kind, x, y)).mapToInt(Reason::weight).sum();
    }

    int reason(int kind, int x, int y, int k, int what) {
        if (!isLink(kind, x, y)) {
            return NONE;
        }
        List<int[]> all = new ArrayList<>();
        texts.forEach((number, signs) -> {
            int among = 0;
            for (Reason one : signs) {
                if (one.isOf(kind, x, y)) {
                    all.add(new int[] {100 * number + among++, one.place, NONE, one.weight});
                }
            }
        });
        for (Reason one : sayings) {
            if (one.isOf(kind, x, y)) {
                all.add(new int[] {NONE, NONE, one.person, one.weight});
            }
        }
        return k < 0 || k >= all.size() || what < 0 || what > 3 ? NONE : all.get(k)[what];
    }

    private List<Link> links() {
        int[][] weights = new int[24][24];
        List<Reason> reasons = new ArrayList<>(sayings);
        texts.values().forEach(reasons::addAll);
        for (Reason one : reasons) {
            weights[one.x][one.y] += one.kind == 0 ? one.weight : 0;
        }
        List<Link> all = new ArrayList<>();
        for (int x = 0; x < 24; x++) {
            for (int y = 0; y < 24; y++) {
                if (weights[x][y] > 0) {
                    all.add(new Link(x, y, weights[x][y]));
                }
            }
        }
        return all;
    }

    /** The parents, and in bars, if it is given, what bars each link with a weight. */
    private int[] tree(int[][] bars) {
        int[] parents = new int[24];
        Arrays.fill(parents, NONE);
        List<Link> left = links();
        while (!left.isEmpty()) {
            Link next = left.get(0);
            for (Link one : left) {
                if (one.weight > next.weight) {
                    next = one;
                }
            }
            left.remove(next);
            int bar = bar(parents, next.x, next.y);
            if (bar == 0) {
                parents[next.y] = next.x;
            }
            if (bars != null) {
                bars[next.x][next.y] = bar;
            }
        }
        return parents;
    }

    private int bar(int[] parents, int x, int y) {
        if (parents[y] != NONE) {
            return 2;
        }
        if (isAbove(parents, y, x)) {
            return 3;
        }
        for (Reason not : sayings) {
            if (not.kind == 3 && (not.x == x || isAbove(parents, not.x, x)) && (not.y == y || isAbove(parents, y, not.y))) {
                return 4;
            }
        }
        return 0;
    }

    private static boolean isAbove(int[] parents, int x, int y) {
        for (int at = parents[y]; at != NONE; at = parents[at]) {
            if (at == x) {
                return true;
            }
        }
        return false;
    }

    int parent(int word) {
        return has(word) ? tree(null)[word] : NONE;
    }

    int why(int x, int y) {
        if (!has(x) || !has(y) || x == y) {
            return NONE;
        }
        int[][] bars = new int[24][24];
        for (int[] row : bars) {
            Arrays.fill(row, 1);
        }
        tree(bars);
        return bars[x][y];
    }

    int above(int x, int y) {
        if (!has(x) || !has(y)) {
            return NONE;
        }
        return isAbove(tree(null), x, y) ? 1 : 0;
    }

    int below(int word, int k) {
        if (!has(word)) {
            return NONE;
        }
        int[] parents = tree(null);
        List<Integer> lower = new ArrayList<>();
        for (int i = 0; i < words.size(); i++) {
            if (isAbove(parents, word, i)) {
                lower.add(i);
            }
        }
        return k == NONE ? lower.size() : k >= 0 && k < lower.size() ? lower.get(k) : NONE;
    }

    private static List<Integer> upFrom(int[] parents, int word) {
        List<Integer> up = new ArrayList<>();
        for (int at = word; at != NONE; at = parents[at]) {
            up.add(at);
        }
        return up;
    }

    int meets(int x, int y) {
        if (!has(x) || !has(y)) {
            return NONE;
        }
        int[] parents = tree(null);
        List<Integer> other = upFrom(parents, y);
        return upFrom(parents, x).stream().filter(other::contains).findFirst().orElse(NONE);
    }

    int way(int x, int y) {
        int top = meets(x, y);
        if (top == NONE) {
            return NONE;
        }
        int[] parents = tree(null);
        return upFrom(parents, x).indexOf(top) + upFrom(parents, y).indexOf(top);
    }

    private Set<Integer> neighbours(int[] parents, int word) {
        Set<Integer> near = new TreeSet<>();
        for (int i = 0; i < words.size(); i++) {
            if (parents[word] == i || parents[i] == word || weight(2, i, word) > 0) {
                near.add(i);
            }
        }
        return near;
    }

    int shared(int x, int y) {
        if (!has(x) || !has(y)) {
            return NONE;
        }
        int[] parents = tree(null);
        Set<Integer> both = neighbours(parents, x);
        both.retainAll(neighbours(parents, y));
        return both.size();
    }

    int senses(int word) {
        if (!has(word)) {
            return NONE;
        }
        int[] parents = tree(null);
        List<Set<Integer>> parts = new ArrayList<>();
        for (int one : neighbours(parents, word)) {
            Set<Integer> near = neighbours(parents, one);
            Set<Integer> merged = new HashSet<>(Set.of(one));
            for (Set<Integer> part : List.copyOf(parts)) {
                if (part.stream().anyMatch(near::contains)) {
                    merged.addAll(part);
                    parts.remove(part);
                }
            }
            parts.add(merged);
        }
        return parts.size();
    }

    int sum() {
        int[] parents = tree(null);
        int added = 0;
        for (int y = 0; y < 24; y++) {
            added += parents[y] == NONE ? 0 : weight(0, parents[y], y);
        }
        return added;
    }

    int best(int set) {
        List<Integer> members = new ArrayList<>();
        for (int i = 0; i < 32; i++) {
            if ((set >>> i & 1) == 1) {
                if (!has(i)) {
                    return NONE;
                }
                members.add(i);
            }
        }
        if (members.size() > 6) {
            return NONE;
        }
        List<Link> among = new ArrayList<>(links());
        among.removeIf(one -> !members.contains(one.x) || !members.contains(one.y));
        int[] parents = new int[24];
        Arrays.fill(parents, NONE);
        return greatest(members, 0, among, parents, 0);
    }

    private int greatest(List<Integer> members, int at, List<Link> among, int[] parents, int added) {
        if (at == members.size()) {
            return holds(members, parents) ? added : 0;
        }
        int most = greatest(members, at + 1, among, parents, added);
        for (Link one : among) {
            if (one.y == members.get(at)) {
                parents[one.y] = one.x;
                most = Math.max(most, greatest(members, at + 1, among, parents, added + one.weight));
                parents[one.y] = NONE;
            }
        }
        return most;
    }

    private boolean holds(List<Integer> members, int[] parents) {
        for (int one : members) {
            int at = one;
            for (int step = 0; step < members.size() && at != NONE; step++) {
                at = parents[at];
            }
            if (at != NONE) {
                return false;
            }
        }
        return sayings.stream().noneMatch(not -> not.kind == 3 && members.contains(not.x) && members.contains(not.y)
                && isAbove(parents, not.x, not.y));
    }

    private static int linksOf(int[] parents) {
        return (int) Arrays.stream(parents).filter(one -> one != NONE).count();
    }

    int keep() {
        kept = tree(null);
        return linksOf(kept);
    }

    int over(int what) {
        if (kept == null || what < 0 || what > 3) {
            return NONE;
        }
        int[] now = tree(null);
        int both = 0;
        int turned = 0;
        for (int y = 0; y < 24; y++) {
            both += kept[y] != NONE && kept[y] == now[y] ? 1 : 0;
            turned += kept[y] != NONE && isAbove(now, y, kept[y]) ? 1 : 0;
        }
        return new int[] {both, linksOf(kept) - both, linksOf(now) - both, turned}[what];
    }

    int count(int what) {
        return switch (what) {
            case 0 -> words.size();
            case 1 -> texts.size();
            case 2 -> sayings.size();
            case 3 -> tape.length();
            case 4 -> linksOf(tree(null));
            case 5 -> links().size();
            default -> NONE;
        };
    }
}
