import java.io.IOException;
import java.lang.reflect.Method;
import java.util.BitSet;
import java.util.regex.Matcher;
import java.util.regex.Pattern;

/** No sentence of the document is without a test that quotes it. */
public final class DocumentTest {
    private static final Class<?>[] QUOTING = {WholeTest.class, TermsTest.class, ChangesTest.class, AnswersTest.class};

    /** Headings and the face (RulesTest looks at that), words that only name what comes behind, and what is free. */
    private static final Pattern ASKS_NOTHING = Pattern.compile("# WordTree ## What it is|==== \\d\\.|"
            + "what later calls answer is free|## The public face ```java .*? ```|## Terms|```text|SIGNS, (?=X and Y)|"
            + "THE TREE: (?=LINKS)|The constants:|## Promise \\d+: [^`]*`[^`]*`:|## Not promised .*");

    private DocumentTest() {
    }

    public static void main(String[] args) throws IOException {
        String document = Sentences.document();
        BitSet quoted = new BitSet();
        Matcher free = ASKS_NOTHING.matcher(document);
        while (free.find()) {
            quoted.set(free.start(), free.end());
        }
        for (Class<?> tests : QUOTING) {
            for (Method one : tests.getDeclaredMethods()) {
                Says says = one.getAnnotation(Says.class);
                if (says != null) {
                    mark(document, says.value(), quoted);
                }
            }
        }
        Checks.section("the document");
        lookForGaps(document, quoted);
        Checks.finish();
    }

    private static void mark(String document, String[] quotes, BitSet quoted) {
        for (String each : quotes) {
            String words = Sentences.plain(each);
            for (int at = document.indexOf(words); at >= 0; at = document.indexOf(words, at + 1)) {
                quoted.set(at, at + words.length());
            }
        }
    }

    private static void lookForGaps(String document, BitSet quoted) {
        int at = quoted.nextClearBit(0);
        while (at < document.length()) {
            int end = quoted.nextSetBit(at);
            String gap = document.substring(at, end < 0 ? document.length() : end);
            Checks.due("quoted: '" + gap + "'", gap.chars().anyMatch(Character::isLetterOrDigit), false);
            at = quoted.nextClearBit(at + gap.length());
        }
    }
}
