import java.io.IOException;
import java.lang.management.ManagementFactory;
import java.lang.reflect.Constructor;
import java.lang.reflect.Field;
import java.lang.reflect.Method;
import java.lang.reflect.Modifier;
import java.nio.charset.StandardCharsets;
import java.nio.file.Files;
import java.nio.file.Path;
import java.util.Arrays;
import java.util.Set;
import java.util.TreeSet;
import java.util.regex.Matcher;
import java.util.regex.Pattern;

// The face of the document, the rules of LANGUAGE.md that a text search can see, and the room that a run takes.
public final class LawWorldsRules {
    private static final String SOURCE = "src/main/java/LawWorlds.java";
    private static final String[] FACE = {
        "take(int,int)", "put(int,int,int)", "rename(int,int)", "mirror()", "addLaws()", "removeLaw(int)",
        "turnLaw(int,boolean)", "refute(int)", "type(char)", "clearText()", "undo()", "keep()", "restore()",
        "of(int,int)", "world(int)", "closed(int)", "law(int,int)", "side(int,boolean,int)", "witness(int,int,int)",
        "model(int,int)", "models(int,boolean)", "paired(int,int,int)", "alike(int,int,int)", "count(int)",
    };
    private static final String[] FORBIDDEN = {
        "\\b(throw|throws|try|catch|finally|synchronized|assert|import|package|volatile|transient|native)\\b",
        "->", "::", "@\\w+", "\\bsuper\\b", "\\bObject\\b", "\\bSystem\\.(?!arraycopy)", "\\bThread\\b",
        "\\w+Exact\\b", "\\b(Integer|Long|Byte|Character|Short|Double)\\.[A-Z]", "\\bString\\.", "\\bCharacter\\.",
        "\\b(equals|hashCode|toString)\\b", "[^\\x00-\\x7f]",
    };

    private static int wrong = 0;

    private static void due(String what, Object got, Object want) {
        if (!got.equals(want)) {
            wrong++;
            System.out.println(what + " is " + got + ", due is " + want);
        }
    }

    public static void main(String[] args) throws IOException {
        face();
        insides();
        constants();
        source();
        room();
        anyArguments();
        System.out.println(wrong == 0 ? "all rules are kept" : wrong + " rules are not kept");
        if (wrong != 0) {
            System.exit(1);
        }
    }

    private static void face() {
        Set<String> names = new TreeSet<>();
        Set<String> shown = new TreeSet<>();
        for (Method method : LawWorlds.class.getDeclaredMethods()) {
            if (Modifier.isPrivate(method.getModifiers()) || method.isSynthetic()) {
                continue;
            }
            String types = Arrays.toString(method.getParameterTypes()).replaceAll("[\\[\\] ]", "");
            shown.add(method.getName() + "(" + types + ")");
            names.add(method.getName());
            due(method + " public", Modifier.isPublic(method.getModifiers()), true);
            due(method + " returns", method.getReturnType(), int.class);
        }
        due("the face", shown, new TreeSet<>(Arrays.asList(FACE)));
        for (Method method : LawWorlds.class.getDeclaredMethods()) {
            due(method + " bears a public name", Modifier.isPrivate(method.getModifiers())
                && names.contains(method.getName()), false);
        }
        due("final and public", LawWorlds.class.getModifiers(), Modifier.PUBLIC | Modifier.FINAL);
        Constructor<?>[] constructors = LawWorlds.class.getDeclaredConstructors();
        due("constructors", constructors.length, 1);
        due("public, without parameters", Modifier.isPublic(constructors[0].getModifiers())
            && constructors[0].getParameterCount() == 0, true);
    }

    private static void insides() {
        Class<?>[] inside = LawWorlds.class.getDeclaredClasses();
        due("at most twelve classes", inside.length < 12, true);
        for (Class<?> one : inside) {
            due(one + " static", Modifier.isStatic(one.getModifiers()), true);
            due(one + " public or protected",
                (one.getModifiers() & (Modifier.PUBLIC | Modifier.PROTECTED)) != 0, false);
            due(one + " has at most twenty fields", one.getDeclaredFields().length <= 20, true);
            for (Field field : one.getDeclaredFields()) {
                boolean isFixed = !Modifier.isStatic(field.getModifiers()) || Modifier.isFinal(field.getModifiers());
                due(field + " final if static", isFixed, true);
            }
        }
    }

    private static void constants() {
        due("UNKNOWN", LawWorlds.UNKNOWN, -1);
        due("BAD_VALUE", LawWorlds.BAD_VALUE, -2);
        due("FULL", LawWorlds.FULL, -3);
        due("NOT_POSSIBLE", LawWorlds.NOT_POSSIBLE, -4);
        due("NONE", LawWorlds.NONE, -5);
        int shown = 0;
        for (Field field : LawWorlds.class.getDeclaredFields()) {
            if (!Modifier.isPrivate(field.getModifiers())) {
                shown++;
                due(field + " constant", field.getModifiers(), Modifier.PUBLIC | Modifier.STATIC | Modifier.FINAL);
            }
        }
        due("constants", shown, 5);
    }

    private static void source() throws IOException {
        String source = Files.readString(Path.of(SOURCE), StandardCharsets.UTF_8);
        String code = source.replaceAll("(?s)/\\*.*?\\*/", "").replaceAll("//[^\n]*", "");
        for (String pattern : FORBIDDEN) {
            Matcher matcher = Pattern.compile(pattern).matcher(code);
            due("first place of " + pattern, matcher.find() ? matcher.group() : "", "");
        }
        // A method ends at the first closing brace that stands as far in as it does.
        Matcher method = Pattern.compile("(?m)^( +)(?!class)[^\\n;=]*\\)\\s*\\{\\n(?s:.*?)\\n\\1\\}$").matcher(code);
        while (method.find()) {
            long lines = method.group().chars().filter(c -> c == '\n').count();
            due("at most sixty lines: " + method.group().strip().split("\n")[0], lines <= 60, true);
        }
    }

    private static void write(LawWorlds x, String text) {
        x.clearText();
        for (char character : text.toCharArray()) {
            x.type(character);
        }
    }

    private static long allocated() {
        return ((com.sun.management.ThreadMXBean) ManagementFactory.getThreadMXBean())
            .getThreadAllocatedBytes(Thread.currentThread().getId());
    }

    /** The dearest runs: ever new laws, each of which is asked for what holds in all worlds. */
    private static void room() {
        long start = allocated();
        LawWorlds x = new LawWorlds();
        write(x, "xyz=x(yz);xy=yx;xxyy=x;x=y");
        for (int call = 0; call < 120; call++) {
            x.addLaws();
            x.count(3);
            x.undo();
            x.keep();
        }
        long same = allocated() - start;
        due("room of the same laws, under a megabyte: " + same, same < 1_000_000, true);
        start = allocated();
        x = new LawWorlds();
        int calls = 0;
        for (int law = 0; calls < 490; law++) {
            write(x, "x=" + "xyz".charAt(law % 3) + "xyz".charAt(law / 3 % 3) + "xyz".charAt(law / 9 % 3));
            x.addLaws();
            x.count(3);
            x.models(3, true);
            x.witness(0, 0, 0);
            if (x.count(0) == 5) {
                x.keep();
                for (int i = 0; i < 5; i++) {
                    x.removeLaw(0);
                }
                calls += 6;
            }
            calls += 12;
        }
        long other = allocated() - start;
        due("room of ever new laws, under a megabyte: " + other, other < 1_000_000, true);
    }

    /** No call ever fails, in any state and beyond the 512th call too. */
    private static void anyArguments() {
        int[] wild = {Integer.MIN_VALUE, -19683, -27, -1, 0, 1, 2, 3, 4, 5, 7, 8, 11, 12, 26, 27, 16, 19682, 19683,
            Integer.MAX_VALUE};
        LawWorlds x = new LawWorlds();
        String[] texts = {"", "xy=yx", "((((", "xyzxyzxy=x(y(z(xy)))zx;x=x;y=z", "=", "))", "x=y;x=y;x=y;x=y;x=y"};
        for (int round = 0; round < 3; round++) {
            for (String text : texts) {
                write(x, text);
                for (int a : wild) {
                    x.addLaws();
                    x.keep();
                    x.removeLaw(a);
                    x.turnLaw(a, round == 1);
                    x.world(a);
                    x.closed(a);
                    x.count(a);
                    x.refute(a);
                    for (int b : wild) {
                        x.take(b, a);
                        callAll(x, a, b, wild);
                    }
                    x.mirror();
                    x.restore();
                    x.undo();
                }
            }
        }
    }

    private static void callAll(LawWorlds x, int a, int b, int[] wild) {
        x.rename(a, b);
        x.of(a, b);
        x.law(a, b);
        x.model(a, b);
        x.models(a, b > 0);
        x.side(a, true, b);
        x.side(a, false, b);
        for (int c : wild) {
            x.put(a, b, c);
            x.witness(a, b, c);
            x.paired(a, b, c);
            x.alike(a, b, c);
        }
    }
}
