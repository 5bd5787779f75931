import java.io.IOException;
import java.lang.reflect.InvocationTargetException;
import java.lang.reflect.Method;
import java.lang.reflect.Modifier;
import java.nio.file.Files;
import java.nio.file.Path;
import java.util.ArrayList;
import java.util.List;
import java.util.Set;
import java.util.TreeSet;
import java.util.regex.Matcher;
import java.util.regex.Pattern;

/** The examples of README.md are one run of calls: each answers what stands behind it, and no call is left out. */
public final class ReadmeTest {
    private static final Pattern CALL = Pattern.compile("tree\\.(\\w+)\\(([^)]*)\\);\\s+// (-?\\w+):.*");

    private final WordTree tree = new WordTree();
    private final Set<String> shown = new TreeSet<>();

    private ReadmeTest() {
    }

    public static void main(String[] args) throws IOException, ReflectiveOperationException {
        Checks.section("README.md");
        ReadmeTest test = new ReadmeTest();
        for (String line : Files.readAllLines(Path.of("README.md"))) {
            Matcher call = CALL.matcher(line);
            boolean example = call.matches();
            Checks.due("an example that can be read: " + line, example, line.startsWith("tree."));
            if (example) {
                test.call(call.group(1), numbers(call.group(2)), call.group(3));
            }
        }
        for (Method one : WordTree.class.getDeclaredMethods()) {
            if (Modifier.isPublic(one.getModifiers())) {
                Checks.due("an example of " + one.getName(), test.shown.contains(one.getName()), true);
            }
        }
        Checks.due("a way to run the tests", Files.readString(Path.of("README.md")).contains("\n.ci/run\n"), true);
        Checks.finish();
    }

    private static List<Integer> numbers(String places) {
        List<Integer> all = new ArrayList<>();
        for (String one : places.split(", ")) {
            if (one.equals("WordTree.NONE")) {
                all.add(WordTree.NONE);
            } else if (one.startsWith("0b")) {
                all.add(Integer.parseInt(one.substring(2), 2));
            } else if (!one.isEmpty()) {
                all.add(Integer.decode(one));
            }
        }
        return all;
    }

    private void call(String name, List<Integer> places, String answer)
            throws IllegalAccessException, InvocationTargetException {
        shown.add(name);
        boolean found = false;
        for (Method one : WordTree.class.getDeclaredMethods()) {
            if (one.getName().equals(name) && one.getParameterCount() == places.size()) {
                found = true;
                Checks.due(name + places, String.valueOf(one.invoke(tree, places.toArray())), answer);
            }
        }
        Checks.due("a call " + name + places, found, true);
    }
}
