/** What the tests share: comparing answers, and putting texts on the tape. */
final class Checks {
    private static int done = 0;
    private static int wrong = 0;
    private static String section = "";

    private Checks() {
    }

    static void section(String name) {
        section = name;
    }

    static void due(String call, int got, int want) {
        done++;
        if (got != want) {
            wrong++;
            if (wrong <= 50) {
                System.out.println(section + ": " + call + " answered " + got + ", due is " + want);
            }
        }
    }

    static void due(String call, boolean got, boolean want) {
        due(call, got ? 1 : 0, want ? 1 : 0);
    }

    static boolean anyWrong() {
        return wrong > 0;
    }

    static void finish() {
        System.out.println(done + " answers looked at, " + wrong + " not as due");
        if (wrong != 0) {
            System.exit(1);
        }
    }

    /** Feeds the characters as bytes, filled up with blanks to twenty; the last answer of feed. */
    static int feed(WordTree x, String bytes) {
        StringBuilder all = new StringBuilder(bytes);
        while (all.length() % 20 != 0) {
            all.append(' ');
        }
        int answer = x.count(3);
        for (int i = 0; i < all.length(); i += 20) {
            answer = x.feed(number(all, i), number(all, i + 4), number(all, i + 8), number(all, i + 12),
                    number(all, i + 16));
        }
        return answer;
    }

    static int text(WordTree x, String bytes) {
        feed(x, bytes);
        return x.text(bytes.length());
    }

    static int word(WordTree x, String bytes) {
        feed(x, bytes);
        return x.word(bytes.length());
    }

    /** A new object with the words given, numbered from 0. */
    static WordTree with(String... words) {
        WordTree x = new WordTree();
        for (String one : words) {
            word(x, one);
        }
        return x;
    }

    static String spelled(WordTree x, int word) {
        StringBuilder letters = new StringBuilder();
        for (int i = 0; i < x.letter(word, WordTree.NONE); i++) {
            letters.append((char) x.letter(word, i));
        }
        return letters.toString();
    }

    private static int number(CharSequence bytes, int at) {
        return bytes.charAt(at) << 24 | bytes.charAt(at + 1) << 16 | bytes.charAt(at + 2) << 8 | bytes.charAt(at + 3);
    }
}
