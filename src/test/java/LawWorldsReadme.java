import java.io.IOException;
import java.lang.reflect.Field;
import java.lang.reflect.InvocationTargetException;
import java.lang.reflect.Method;
import java.lang.reflect.Modifier;
import java.nio.charset.StandardCharsets;
import java.nio.file.Files;
import java.nio.file.Path;
import java.util.ArrayList;
import java.util.Collections;
import java.util.List;
import java.util.Map;
import java.util.Set;
import java.util.TreeMap;
import java.util.TreeSet;
import java.util.regex.Matcher;
import java.util.regex.Pattern;
import java.util.stream.Stream;

// README.md: its example answers what it says, and its tables tell what the document tells.
public final class LawWorldsReadme {
    private static final Pattern CONSTANT = Pattern.compile("\\b(UNKNOWN|BAD_VALUE|FULL|NOT_POSSIBLE|NONE)\\b");

    private static String document = "";
    private static String readme = "";
    private static int wrong = 0;

    private static void due(String what, Object got, Object want) {
        if (!got.equals(want)) {
            wrong++;
            System.out.println(what + ": " + got + ", due is " + want);
        }
    }

    public static void main(String[] args) throws IOException, ReflectiveOperationException {
        document = Files.readString(Path.of("../shared/DOC.md"), StandardCharsets.UTF_8);
        readme = Files.readString(Path.of("README.md"), StandardCharsets.UTF_8);
        example();
        newObject();
        constants();
        methods();
        whats();
        tests();
        System.out.println(wrong == 0 ? "the README holds" : wrong + " places of the README do not hold");
        if (wrong != 0) {
            System.exit(1);
        }
    }

    // ---- the example

    private static void example() throws ReflectiveOperationException {
        Matcher typed = Pattern.compile("for \\(char c : \"([^\"]*)\"\\.toCharArray").matcher(readme);
        due("the example types a text", typed.find(), true);
        LawWorlds x = new LawWorlds();
        for (char character : typed.group(1).toCharArray()) {
            x.type(character);
        }
        Matcher call = Pattern.compile("(?m)^    x\\.(\\w+)\\(([^)]*)\\); +// (-?\\d+):").matcher(readme);
        int calls = 0;
        while (call.find()) {
            due("the example's " + call.group(1) + "(" + call.group(2) + ")",
                answer(x, call.group(1), call.group(2)), Integer.valueOf(call.group(3)));
            calls++;
        }
        due("the example has some calls", calls >= 5, true);
    }

    private static int answer(LawWorlds x, String name, String arguments) throws ReflectiveOperationException {
        for (Method method : LawWorlds.class.getMethods()) {
            if (method.getName().equals(name)) {
                return call(x, method, arguments.isEmpty() ? new String[0] : arguments.split(", "));
            }
        }
        due("there is a method " + name, false, true);
        return 0;
    }

    private static int call(LawWorlds x, Method method, String[] words)
            throws IllegalAccessException, InvocationTargetException {
        Object[] values = new Object[words.length];
        for (int i = 0; i < words.length; i++) {
            boolean isTruth = method.getParameterTypes()[i] == boolean.class;
            values[i] = isTruth ? (Object) Boolean.valueOf(words[i]) : (Object) Integer.valueOf(words[i]);
        }
        return (Integer) method.invoke(x, values);
    }

    private static void newObject() {
        due("how an object is made", readme.contains("two things, 0 and 1, of any two of which comes 0"), true);
        LawWorlds x = new LawWorlds();
        due("a new object's size", x.world(0), 2);
        due("a new object's code", x.world(1), 0);
        due("a new object's laws", x.count(0), 0);
        due("a new object's history", x.count(4), 0);
        due("a new object's text", x.count(5), 0);
        due("a new object's snapshot", x.restore(), LawWorlds.NONE);
    }

    // ---- the constants

    private static void constants() throws ReflectiveOperationException {
        Matcher constant = Pattern.compile("`(\\w+) = (-\\d+)`: ([^\n]+)").matcher(document);
        int told = 0;
        while (constant.find()) {
            told++;
            String name = constant.group(1);
            List<String> cells = row("| `" + name + "` |");
            Field field = LawWorlds.class.getField(name);
            due("README's cells of " + name, cells.size(), 3);
            if (cells.size() == 3) {
                due("README's value of " + name, cells.get(1), constant.group(2));
                due("the class's value of " + name, String.valueOf(field.getInt(null)), cells.get(1));
                String meaning = constant.group(3).substring(0, constant.group(3).length() - 1);
                due("README's meaning of " + name, cells.get(2).startsWith(meaning), true);
            }
        }
        due("constants that the document tells", told, 5);
    }

    /** The cells of the one row that begins so; none if there is no such row, or more than one. */
    private static List<String> row(String beginning) {
        List<String> cells = new ArrayList<>();
        int rows = 0;
        for (String line : readme.split("\n")) {
            if (line.startsWith(beginning)) {
                rows++;
                for (String cell : line.substring(1, line.length() - 1).split("\\|", -1)) {
                    cells.add(cell.trim());
                }
            }
        }
        due("rows of the README that begin with " + beginning, rows, 1);
        return rows == 1 ? cells : Collections.emptyList();
    }

    // ---- the methods

    private static void methods() {
        Matcher signature = Pattern.compile("(?m)^    public int (\\w+\\([^)]*\\));").matcher(document);
        int told = 0;
        while (signature.find()) {
            told++;
            String section = section(signature.group(1));
            List<String> cells = row("| `" + signature.group(1) + "` |");
            due("README's cells of " + signature.group(1), cells.size(), 4);
            if (cells.size() == 4) {
                boolean isAct = section.contains("This is an act") || section.contains("This is one act");
                due("README marks " + signature.group(1) + " as an act", cells.get(1).equals("act"), isAct);
                due("README's errors of " + signature.group(1), constantsOf(cells.get(3)), errors(section));
            }
        }
        due("methods that the document tells", told, publicMethods());
    }

    private static int publicMethods() {
        int count = 0;
        for (Method method : LawWorlds.class.getDeclaredMethods()) {
            count += Modifier.isPublic(method.getModifiers()) ? 1 : 0;
        }
        return count;
    }

    private static String section(String signature) {
        int from = document.indexOf("`int " + signature + "`");
        due("the document has a section of " + signature, from >= 0, true);
        return from < 0 ? "" : document.substring(from).split("\n## ")[0];
    }

    /** The constants behind "Returns", in their order, then those that stand elsewhere in the section. */
    private static List<String> errors(String section) {
        int returns = Math.max(0, section.indexOf("\nReturns "));
        List<String> found = constantsOf(section.substring(returns));
        for (String other : constantsOf(section.substring(0, returns))) {
            if (!found.contains(other)) {
                found.add(other);
            }
        }
        return found;
    }

    private static List<String> constantsOf(String words) {
        List<String> found = new ArrayList<>();
        Matcher constant = CONSTANT.matcher(words);
        while (constant.find()) {
            found.add(constant.group());
        }
        return found;
    }

    // ---- what "what" asks for

    private static void whats() {
        LawWorlds x = new LawWorlds();
        for (char character : "x=x".toCharArray()) {
            x.type(character);
        }
        x.addLaws();
        Map<Integer, List<String>> rows = new TreeMap<>();
        Matcher line = Pattern.compile("(?m)^\\| (\\d) \\|.*$").matcher(readme);
        while (line.find()) {
            rows.put(Integer.valueOf(line.group(1)), row("| " + line.group(1) + " |"));
        }
        for (int what = -1; what < 12; what++) {
            due("README tells of world(" + what + ")", tells(rows, what, 1), x.world(what) != LawWorlds.BAD_VALUE);
            due("README tells of law(0, " + what + ")", tells(rows, what, 2),
                x.law(0, what) != LawWorlds.BAD_VALUE);
            due("README tells of count(" + what + ")", tells(rows, what, 3), x.count(what) != LawWorlds.BAD_VALUE);
        }
    }

    private static boolean tells(Map<Integer, List<String>> rows, int what, int cell) {
        List<String> cells = rows.getOrDefault(what, Collections.emptyList());
        return cells.size() == 4 && !cells.get(cell).isEmpty();
    }

    // ---- the tests

    private static void tests() throws IOException {
        Set<String> there = new TreeSet<>();
        try (Stream<Path> files = Files.list(Path.of("src/test/java"))) {
            files.forEach(file -> there.add(file.getFileName().toString().replace(".java", "")));
        }
        Set<String> named = new TreeSet<>();
        Matcher name = Pattern.compile("(?m)^- `(\\w+)`: ").matcher(readme);
        while (name.find()) {
            named.add(name.group(1));
        }
        due("tests that the README names", named, there);
        due("the README tells how to run them", readme.contains("    .ci/run\n"), true);
        due("there is a script that runs them", Files.isExecutable(Path.of(".ci/run")), true);
    }
}
