import java.io.IOException;
import java.lang.reflect.Constructor;
import java.lang.reflect.Field;
import java.lang.reflect.Member;
import java.lang.reflect.Method;
import java.lang.reflect.Modifier;
import java.nio.file.Files;
import java.nio.file.Path;
import java.util.Arrays;
import java.util.Set;
import java.util.TreeSet;
import java.util.regex.Matcher;
import java.util.regex.Pattern;

/** The document's face, and the rules of LANGUAGE.md that can be seen without reading what the code means. */
public final class RulesTest {
    private static final Set<String> FACE = Set.of("int feed(int, int, int, int, int)", "int text(int)",
            "boolean back(int)", "int signs(int)", "int word(int)", "int letter(int, int)",
            "int say(int, int, int, int, int)", "int weight(int, int, int)", "int reason(int, int, int, int, int)",
            "int parent(int)", "int why(int, int)", "int above(int, int)", "int below(int, int)", "int meets(int, int)",
            "int way(int, int)", "int shared(int, int)", "int senses(int)", "int sum()", "int best(int)", "int keep()",
            "int over(int)", "int count(int)");
    private static final String[] FORBIDDEN = {"throw", "throws", "try", "catch", "finally", "synchronized", "assert",
            "package", "Object", "Random", "Thread", "native", "volatile", "float", "double"};

    private RulesTest() {
    }

    public static void main(String[] args) throws IOException {
        face();
        nested();
        source();
        Checks.finish();
    }

    private static void face() {
        Checks.section("rule 1");
        Class<?> type = WordTree.class;
        Checks.due("public and final", type.getModifiers(), Modifier.PUBLIC | Modifier.FINAL);
        Set<String> open = new TreeSet<>();
        for (Method one : type.getDeclaredMethods()) {
            if (!Modifier.isPrivate(one.getModifiers())) {
                Checks.due(one + " is public and nothing else", one.getModifiers(), Modifier.PUBLIC);
                open.add(told(one));
            } else {
                Checks.due(one + " has a name of its own", isOfFace(one.getName()), false);
            }
        }
        Checks.due("the methods: " + open, open.equals(FACE), true);
        for (Field one : type.getDeclaredFields()) {
            boolean constant = one.getName().equals("NONE");
            Checks.due(one + " is private", Modifier.isPrivate(one.getModifiers()), !constant);
            Checks.due(one + " static, then final", Modifier.isStatic(one.getModifiers())
                    && !Modifier.isFinal(one.getModifiers()), false);
        }
        Constructor<?>[] makers = type.getDeclaredConstructors();
        Checks.due("one constructor", makers.length, 1);
        Checks.due("it is public", makers[0].getModifiers(), Modifier.PUBLIC);
        Checks.due("it takes nothing", makers[0].getParameterCount(), 0);
    }

    private static String told(Method one) {
        String types = Arrays.toString(one.getParameterTypes());
        return one.getReturnType() + " " + one.getName() + "(" + types.substring(1, types.length() - 1) + ")";
    }

    private static boolean isOfFace(String name) {
        return FACE.stream().anyMatch(one -> one.contains(" " + name + "("));
    }

    private static void nested() {
        Checks.section("rules 2 and 11");
        Class<?>[] inside = WordTree.class.getDeclaredClasses();
        Checks.due("twelve classes at most", inside.length <= 11, true);
        for (Class<?> one : inside) {
            Checks.due(one + " is static", Modifier.isStatic(one.getModifiers()), true);
            Checks.due(one + " has twenty fields at most", one.getDeclaredFields().length <= 20, true);
            for (Method method : one.getDeclaredMethods()) {
                Checks.due(method + " has a name of its own", isOfFace(method.getName()), false);
                Checks.due(method + " takes seven at most", method.getParameterCount() <= 7, true);
            }
            for (Member member : one.getDeclaredFields()) {
                Checks.due(member + " isn't static", Modifier.isStatic(member.getModifiers()), false);
            }
        }
    }

    private static void source() throws IOException {
        Checks.section("rules 4, 6, 10 and 13");
        String code = withoutComments(Files.readString(Path.of("src/main/java/WordTree.java")));
        for (String one : FORBIDDEN) {
            Checks.due(one, Pattern.compile("\\b" + one + "\\b").matcher(code).find(), false);
        }
        Checks.due("lambda or arrow", code.contains("->"), false);
        Checks.due("method reference", code.contains("::"), false);
        Checks.due("static block", Pattern.compile("\\bstatic\\s*\\{").matcher(code).find(), false);
        Matcher imports = Pattern.compile("import ([^;]*);").matcher(code);
        while (imports.find()) {
            Checks.due("import " + imports.group(1), imports.group(1).equals("java.util.Arrays"), true);
        }
        Matcher calls = Pattern.compile("\\b(System|Arrays)\\.(\\w+)").matcher(code);
        while (calls.find()) {
            boolean known = Set.of("arraycopy", "fill", "copyOf", "copyOfRange").contains(calls.group(2));
            Checks.due("call of " + calls.group(), known, true);
        }
        Checks.due("Exact", Pattern.compile("\\b(Integer|Long|Math)\\.\\w*Exact\\b").matcher(code).find(), false);
    }

    private static String withoutComments(String code) {
        return code.replaceAll("(?s)/\\*.*?\\*/", "").replaceAll("//[^\n]*", "");
    }
}
