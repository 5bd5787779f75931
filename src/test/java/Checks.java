import java.util.function.IntUnaryOperator;

/** What the tests share: comparing answers, and putting texts on the tape. */
final class Checks {
    private static int done = 0;
    private static int wrong = 0;
    private static String section = "";

    private Checks() {
    }

    static void section(String name) {
        section = name;
    }

    static void due(String call, int got, int want) {
        done++;
        if (got != want) {
            wrong++;
            if (wrong <= 50) {
                System.out.println(section + ": " + call + " answered " + got + ", due is " + want);
            }
        }
    }

    static void due(String call, boolean got, boolean want) {
        due(call, got ? 1 : 0, want ? 1 : 0);
    }

    static void due(String call, String got, String want) {
        boolean same = got.equals(want);
        due(same ? call : call + ": '" + got + "', due is '" + want + "':", same, true);
    }

    /**
     * A place that takes the numbers from least to greatest: at either the answer that is due, and NONE for those
     * beyond, among them what would come out the same if it were cut to fewer bits or added to other places.
     */
    static void place(String call, IntUnaryOperator ask, int least, int atLeast, int greatest, int atGreatest) {
        due(call + " " + least, ask.applyAsInt(least), atLeast);
        due(call + " " + greatest, ask.applyAsInt(greatest), atGreatest);
        for (int wrong : beyond(least, greatest)) {
            due(call + " " + wrong, ask.applyAsInt(wrong), WordTree.NONE);
        }
    }

    /** Numbers below the least and above the greatest; the two are less than 24 apart. */
    static int[] beyond(int least, int greatest) {
        return new int[] {least - 1, greatest + 1, Integer.MIN_VALUE, Integer.MIN_VALUE + 1, Integer.MAX_VALUE,
            Integer.MAX_VALUE - 1, least - 24, greatest + 24, least + 32, greatest + 64, least + 256, greatest + 576,
            least + 65536, Integer.MIN_VALUE + 1 + greatest};
    }

    /** How many answers were looked at so far. */
    static int done() {
        return done;
    }

    static boolean anyWrong() {
        return wrong > 0;
    }

    static void finish() {
        System.out.println(done + " answers looked at, " + wrong + " not as due");
        if (wrong != 0) {
            System.exit(1);
        }
    }

    /** Feeds the characters as bytes, filled up with blanks to twenty; the last answer of feed. */
    static int feed(WordTree x, String bytes) {
        StringBuilder all = new StringBuilder(bytes);
        while (all.length() % 20 != 0) {
            all.append(' ');
        }
        int answer = x.count(3);
        for (int i = 0; i < all.length(); i += 20) {
            answer = x.feed(number(all, i), number(all, i + 4), number(all, i + 8), number(all, i + 12),
                    number(all, i + 16));
        }
        return answer;
    }

    static int text(WordTree x, String bytes) {
        feed(x, bytes);
        return x.text(bytes.length());
    }

    static int word(WordTree x, String bytes) {
        feed(x, bytes);
        return x.word(bytes.length());
    }

    /** Words "wa", "wb", ..: as many as asked for, numbered from 0. */
    static WordTree withWords(int many) {
        WordTree x = new WordTree();
        for (int i = 0; i < many; i++) {
            due("word " + i, word(x, name(i)), i);
        }
        return x;
    }

    static String name(int word) {
        return "w" + (char) ('a' + word);
    }

    /** A new object with the words given, numbered from 0. */
    static WordTree with(String... words) {
        WordTree x = new WordTree();
        for (String one : words) {
            word(x, one);
        }
        return x;
    }

    static String spelled(WordTree x, int word) {
        StringBuilder letters = new StringBuilder();
        for (int i = 0; i < x.letter(word, WordTree.NONE); i++) {
            letters.append((char) x.letter(word, i));
        }
        return letters.toString();
    }

    private static int number(CharSequence bytes, int at) {
        return bytes.charAt(at) << 24 | bytes.charAt(at + 1) << 16 | bytes.charAt(at + 2) << 8 | bytes.charAt(at + 3);
    }
}
