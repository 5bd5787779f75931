import java.io.IOException;
import java.lang.reflect.Array;
import java.lang.reflect.Constructor;
import java.lang.reflect.Field;
import java.lang.reflect.Member;
import java.lang.reflect.Method;
import java.lang.reflect.Modifier;
import java.nio.file.Files;
import java.nio.file.Path;
import java.util.ArrayDeque;
import java.util.Arrays;
import java.util.Collections;
import java.util.Deque;
import java.util.IdentityHashMap;
import java.util.List;
import java.util.Random;
import java.util.Set;
import java.util.TreeSet;
import java.util.regex.Matcher;
import java.util.regex.Pattern;

/** The document's face, and the rules of LANGUAGE.md that can be seen without reading what the code means. */
public final class RulesTest {
    private static final Set<String> FACE = Set.of("int feed(int, int, int, int, int)", "int text(int)",
            "boolean back(int)", "int signs(int)", "int word(int)", "int letter(int, int)",
            "int say(int, int, int, int, int)", "int weight(int, int, int)", "int reason(int, int, int, int, int)",
            "int parent(int)", "int why(int, int)", "int above(int, int)", "int below(int, int)", "int meets(int, int)",
            "int way(int, int)", "int shared(int, int)", "int senses(int)", "int sum()", "int best(int)", "int keep()",
            "int over(int)", "int count(int)");
    private static final String[] FORBIDDEN = {"throw", "throws", "try", "catch", "finally", "synchronized", "assert",
            "package", "Object", "Random", "Thread", "native", "volatile", "float", "double", "equals", "hashCode",
            "toString", "var"};
    private static final int MOST_CALLS = 512;
    private static final int MOST_LINES = 60;
    /** What all calls of one run may make together, objects and arrays, then fields and elements. */
    private static final int ROOM_OBJECTS = 600_000;
    private static final int ROOM_ELEMENTS = 7_300_000;

    private RulesTest() {
    }

    public static void main(String[] args) throws IOException, IllegalAccessException {
        face();
        faceOfTheDocument();
        nested();
        source();
        shortMethods();
        makesInConstructorsAlone();
        room();
        noCallThrows();
        Checks.finish();
    }

    private static void face() {
        Checks.section("rule 1");
        Class<?> type = WordTree.class;
        Checks.due("public and final", type.getModifiers(), Modifier.PUBLIC | Modifier.FINAL);
        Set<String> open = new TreeSet<>();
        for (Method one : type.getDeclaredMethods()) {
            if (!Modifier.isPrivate(one.getModifiers())) {
                Checks.due(one + " is public and nothing else", one.getModifiers(), Modifier.PUBLIC);
                open.add(told(one));
            } else {
                Checks.due(one + " has a name of its own", isOfFace(one.getName()), false);
            }
        }
        Checks.due("the methods: " + open, open.equals(FACE), true);
        for (Field one : type.getDeclaredFields()) {
            boolean constant = one.getName().equals("NONE");
            Checks.due(one + " is private", Modifier.isPrivate(one.getModifiers()), !constant);
            Checks.due(one + " static, then final", Modifier.isStatic(one.getModifiers())
                    && !Modifier.isFinal(one.getModifiers()), false);
        }
        Constructor<?>[] makers = type.getDeclaredConstructors();
        Checks.due("one constructor", makers.length, 1);
        Checks.due("it is public", makers[0].getModifiers(), Modifier.PUBLIC);
        Checks.due("it takes nothing", makers[0].getParameterCount(), 0);
    }

    private static void faceOfTheDocument() throws IOException {
        Checks.section("the public face");
        String document = Sentences.document();
        String face = document.substring(document.indexOf("```java"), document.indexOf("## Terms"));
        Set<String> open = new TreeSet<>();
        Matcher methods = Pattern.compile("public ((?:int|boolean) \\w+)\\(([^)]*)\\);").matcher(face);
        while (methods.find()) {
            open.add(methods.group(1) + "(" + methods.group(2).replaceAll("int \\w+", "int") + ")");
            String promised = "`" + methods.group(1) + "(" + methods.group(2) + ")`:";
            Checks.due("a promise " + promised, document.contains(promised), true);
        }
        Checks.due("the methods: " + open, open.equals(FACE), true);
        Checks.due("the constant", face.contains("int NONE = " + WordTree.NONE + ";"), true);
    }

    private static String told(Method one) {
        String types = Arrays.toString(one.getParameterTypes());
        return one.getReturnType() + " " + one.getName() + "(" + types.substring(1, types.length() - 1) + ")";
    }

    private static boolean isOfFace(String name) {
        return FACE.stream().anyMatch(one -> one.contains(" " + name + "("));
    }

    private static void nested() {
        Checks.section("rules 2 and 11");
        Class<?>[] inside = WordTree.class.getDeclaredClasses();
        Checks.due("twelve classes at most", inside.length <= 11, true);
        for (Class<?> one : inside) {
            Checks.due(one + " is static", Modifier.isStatic(one.getModifiers()), true);
            Checks.due(one + " has twenty fields at most", one.getDeclaredFields().length <= 20, true);
            for (Method method : one.getDeclaredMethods()) {
                Checks.due(method + " has a name of its own", isOfFace(method.getName()), false);
                Checks.due(method + " takes seven at most", method.getParameterCount() <= 7, true);
            }
            for (Member member : one.getDeclaredFields()) {
                Checks.due(member + " isn't static", Modifier.isStatic(member.getModifiers()), false);
            }
        }
    }

    private static void source() throws IOException {
        Checks.section("rules 4, 6, 10 and 13");
        String code = withoutComments(Files.readString(Path.of("src/main/java/WordTree.java")));
        for (String one : FORBIDDEN) {
            Checks.due(one, Pattern.compile("\\b" + one + "\\b").matcher(code).find(), false);
        }
        Checks.due("lambda or arrow", code.contains("->"), false);
        Checks.due("method reference", code.contains("::"), false);
        Checks.due("static block", Pattern.compile("\\bstatic\\s*\\{").matcher(code).find(), false);
        Matcher imports = Pattern.compile("import ([^;]*);").matcher(code);
        while (imports.find()) {
            Checks.due("import " + imports.group(1), imports.group(1).equals("java.util.Arrays"), true);
        }
        Matcher calls = Pattern.compile("\\b(System|Arrays)\\.(\\w+)").matcher(code);
        while (calls.find()) {
            boolean known = Set.of("arraycopy", "fill", "copyOf", "copyOfRange").contains(calls.group(2));
            Checks.due("call of " + calls.group(), known, true);
        }
        Checks.due("Exact", Pattern.compile("\\b(Integer|Long|Math)\\.\\w*Exact\\b").matcher(code).find(), false);
    }

    private static List<String> lines() throws IOException {
        return Files.readAllLines(Path.of("src/main/java/WordTree.java"));
    }

    private static void shortMethods() throws IOException {
        Checks.section("rule 11");
        List<String> lines = lines();
        for (int from = 0; from < lines.size(); from++) {
            Matcher head = Pattern.compile("( +)[^=]*\\b\\w+\\([^()]*\\) \\{").matcher(lines.get(from));
            boolean method = head.matches() && !lines.get(from).matches(".*\\b(if|for|while|switch|else)\\b.*");
            int end = from;
            while (method && end < lines.size() && !lines.get(end).equals(head.group(1) + "}")) {
                end++;
            }
            Checks.due("short: " + lines.get(from).trim(), end - from < MOST_LINES, true);
        }
    }

    /** What is made once is used again: then no run of calls can fill the room. */
    private static void makesInConstructorsAlone() throws IOException {
        Checks.section("rule 12");
        String end = null;
        for (String line : lines()) {
            Matcher head = Pattern.compile("( +)(?:public )?[A-Z]\\w*\\([^()]*\\) \\{").matcher(line);
            if (head.matches()) {
                end = head.group(1) + "}";
            }
            boolean makes = Pattern.compile("\\bnew\\b").matcher(withoutComments(line)).find();
            Checks.due("made in a constructor: " + line.trim(), makes && end == null, false);
            Checks.due("hands itself out: " + line.trim(), line.matches(".*[(,] ?this[,)].*"), false);
            end = line.equals(end) ? null : end;
        }
    }

    private static void room() throws IllegalAccessException {
        Checks.section("the room");
        int[] sizes = sizesOf(World.NEW.make());
        Checks.due("objects of a run that makes a new one at each call", MOST_CALLS * sizes[0] <= ROOM_OBJECTS, true);
        Checks.due("elements of such a run", MOST_CALLS * sizes[1] <= ROOM_ELEMENTS, true);
        for (World world : World.values()) {
            Checks.due("as many in " + world, Arrays.equals(sizesOf(world.make()), sizes), true);
        }
    }

    /** Objects and arrays that can be come to from one, and their fields and elements. */
    private static int[] sizesOf(Object start) throws IllegalAccessException {
        Set<Object> seen = Collections.newSetFromMap(new IdentityHashMap<>());
        Deque<Object> open = new ArrayDeque<>(List.of(start));
        int elements = 0;
        while (!open.isEmpty()) {
            Object one = open.pop();
            if (seen.add(one)) {
                elements += one.getClass().isArray() ? openElements(one, open) : openFields(one, open);
            }
        }
        return new int[] {seen.size(), elements};
    }

    private static int openElements(Object array, Deque<Object> open) {
        if (array instanceof Object[] objects) {
            open.addAll(Arrays.asList(objects));
        }
        return Array.getLength(array);
    }

    private static int openFields(Object one, Deque<Object> open) throws IllegalAccessException {
        int found = 0;
        for (Field field : one.getClass().getDeclaredFields()) {
            if (!Modifier.isStatic(field.getModifiers())) {
                found++;
                field.setAccessible(true);
                if (!field.getType().isPrimitive()) {
                    open.add(field.get(one));
                }
            }
        }
        return found;
    }

    /** Past its 512th call what an object answers is free, but it answers. */
    private static void noCallThrows() {
        Checks.section("rule 7");
        for (World world : World.values()) {
            WordTree x = world.make();
            Random random = new Random(world.words);
            for (int call = 0; call < 20 * MOST_CALLS; call++) {
                callAny(x, random);
            }
            Checks.due("it still counts", x.count(0) >= world.words, true);
        }
    }

    private static void callAny(WordTree x, Random random) {
        int[] n = new int[5];
        for (int i = 0; i < n.length; i++) {
            n[i] = switch (random.nextInt(8)) {
                case 0 -> random.nextInt();
                case 1 -> random.nextBoolean() ? Integer.MIN_VALUE : Integer.MAX_VALUE;
                case 2 -> -1 - random.nextInt(3);
                case 3 -> random.nextInt(202);
                default -> random.nextInt(26);
            };
        }
        switch (random.nextInt(22)) {
            case 0 -> Checks.feed(x, random.nextBoolean() ? "wa or wb such as wc " : "wd is a kind of \u00ff,");
            case 1 -> x.feed(n[0], n[1], n[2], n[3], n[4]);
            case 2 -> x.text(n[0]);
            case 3 -> x.back(n[0]);
            case 4 -> x.signs(n[0]);
            case 5 -> x.word(n[0]);
            case 6 -> x.letter(n[0], n[1]);
            case 7 -> x.say(n[0] % 10, n[1] % 4, n[2], n[3], n[4]);
            case 8 -> x.weight(n[0] % 3, n[1], n[2]);
            case 9 -> x.reason(n[0] % 3, n[1], n[2], n[3], n[4]);
            case 10 -> x.parent(n[0]);
            case 11 -> x.why(n[0], n[1]);
            case 12 -> x.above(n[0], n[1]);
            case 13 -> x.below(n[0], n[1]);
            case 14 -> x.meets(n[0], n[1]);
            case 15 -> x.way(n[0], n[1]);
            case 16 -> x.shared(n[0], n[1]);
            case 17 -> x.senses(n[0]);
            case 18 -> x.best(n[0] & n[1]);
            case 19 -> x.keep();
            case 20 -> x.over(n[0]);
            default -> x.count(n[0] + x.sum());
        }
    }

    private static String withoutComments(String code) {
        return code.replaceAll("(?s)/\\*.*?\\*/", "").replaceAll("//[^\n]*", "");
    }
}
