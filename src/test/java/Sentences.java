import java.io.IOException;
import java.lang.reflect.InvocationTargetException;
import java.lang.reflect.Method;
import java.nio.file.Files;
import java.nio.file.Path;
import java.util.Arrays;
import java.util.Comparator;
import java.util.Set;
import java.util.TreeSet;
import java.util.regex.Matcher;
import java.util.regex.Pattern;

/** Runs every test of a class that quotes the document, under its own name. */
final class Sentences {
    private static final Pattern NAME = Pattern.compile("(terms|promise(\\d+))[A-Z]\\w*");

    private Sentences() {
    }

    /** The promises from first to last have a test each at least; the tests of the terms count as promise 0. */
    static void run(Class<?> tests, int first, int last) throws IOException {
        String document = document();
        Method[] methods = tests.getDeclaredMethods();
        Arrays.sort(methods, Comparator.comparing(Method::getName));
        Set<Integer> covered = new TreeSet<>();
        int done = 0;
        for (Method one : methods) {
            Says says = one.getAnnotation(Says.class);
            if (says != null) {
                Checks.section(one.getName());
                covered.add(promiseOf(one));
                for (String words : says.value()) {
                    Checks.due("the document says '" + words + "'", document.contains(plain(words)), true);
                }
                invoke(one);
                done++;
            }
        }
        Checks.section(tests.getName());
        for (int promise = first; promise <= last; promise++) {
            Checks.due("a test for promise " + promise, covered.contains(promise), true);
        }
        System.out.println(done + " sentences");
        Checks.finish();
    }

    private static int promiseOf(Method test) {
        Matcher name = NAME.matcher(test.getName());
        boolean named = name.matches();
        Checks.due("a name that begins with terms or its promise", named, true);
        return named && name.group(2) != null ? Integer.parseInt(name.group(2)) : 0;
    }

    private static void invoke(Method test) {
        try {
            test.invoke(null);
        } catch (InvocationTargetException thrown) {
            thrown.getCause().printStackTrace(System.out);
            Checks.due("a call that threw", true, false);
        } catch (IllegalAccessException closed) {
            Checks.due("a test that can be run", false, true);
        }
    }

    /** The whole document as one line. */
    static String document() throws IOException {
        return plain(Files.readString(Path.of("../shared/DOC.md")));
    }

    static String plain(String words) {
        return words.replaceAll("\\s+", " ");
    }
}
