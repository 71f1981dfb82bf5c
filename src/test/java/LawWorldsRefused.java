import java.io.IOException;
import java.nio.charset.StandardCharsets;
import java.nio.file.Files;
import java.nio.file.Path;

// "A call that returns an error or NONE changes nothing." Each such call is made on an object whose history, snapshot,
// laws and text are full, empty or between; all that the object tells afterwards, down to the oldest state, the
// snapshot and each character of the text, has to be what its twin tells, on which the call was not made.
public final class LawWorldsRefused {
    private static final int UNKNOWN = -1;
    private static final int BAD = -2;
    private static final int FULL = -3;
    private static final int NONE = -5;
    private static final int LEAST = Integer.MIN_VALUE;
    private static final int MOST = Integer.MAX_VALUE;
    private static final int[] FAR = {-1, LEAST, MOST, -5, 1000, 19683};
    private static final String FOUR_LAWS = "xyzxyzxy=xyzxyzxy;xyzxyzxy=x;y=xyzxyzxy;xy(z(x(y))x)x=z(xy)z";
    private static final String LATE_FAULT = "xyzxyzxy=xyzxyzxy;xyzxyzxy=x;y=xyzxyzxy;xy(z(x(y))x)x=z(xy)?";

    private static int wrong = 0;

    private interface Made {
        LawWorlds one();
    }

    private interface Call {
        int on(LawWorlds x);
    }

    /** A state of an object, and what all objects in it tell. */
    private static final class Scene {
        private final String name;
        private final Made made;
        private final String told;

        Scene(String name, Made made) {
            this.name = name;
            this.made = made;
            this.told = drained(made.one());
        }

        void refuses(String call, int due, Call refused) {
            LawWorlds x = made.one();
            int answer = refused.on(x);
            if (answer != due) {
                wrong++;
                System.out.println(name + ": " + call + " answered " + answer + ", due is " + due);
            }
            leaves(call, x);
        }

        void leaves(String call, LawWorlds x) {
            String then = drained(x);
            if (!then.equals(told)) {
                wrong++;
                System.out.println(name + ": after " + call + " it tells\n  " + then + "\nits twin tells\n  " + told);
            }
        }
    }

    public static void main(String[] args) throws IOException {
        String document = Files.readString(Path.of("../shared/DOC.md"), StandardCharsets.UTF_8);
        if (!document.contains("A call that returns an error or NONE changes nothing.")) {
            wrong++;
            System.out.println("the document does not say what this test holds the class to");
        }
        fresh(new Scene("a new object", LawWorlds::new));
        full(new Scene("all is full", () -> full(FOUR_LAWS)));
        fault(new Scene("all is full, the text has a fault", () -> full(LATE_FAULT)));
        oneThing(new Scene("one thing", LawWorldsRefused::oneThing));
        symmetric(new Scene("a world of two things that is its own image", LawWorldsRefused::symmetric));
        between(new Scene("four laws, and a text of two", LawWorldsRefused::between));
        emptied(new Scene("emptied again", LawWorldsRefused::emptied));
        textFaults();
        manyRefused(new Scene("four laws, many calls", LawWorldsRefused::between));
        whatIsTold(new Scene("four laws, all that is told", LawWorldsRefused::between));
        whatIsTold(new Scene("a new object, all that is told", LawWorlds::new));
        System.out.println(wrong == 0 ? "refused calls change nothing" : wrong + " answers are not as due");
        if (wrong != 0) {
            System.exit(1);
        }
    }

    // ---- what an object tells

    private static void tellState(LawWorlds x, StringBuilder told) {
        told.append(" w").append(x.world(0)).append(',').append(x.world(1)).append(" c");
        for (int what = 0; what < 6; what++) {
            told.append(what == 3 ? 0 : x.count(what)).append(',');
        }
        for (int law = 0; law < x.count(0); law++) {
            told.append(" l");
            for (int what = 0; what < 4; what++) {
                told.append(x.law(law, what)).append(',');
            }
        }
    }

    private static void tellMore(LawWorlds x, StringBuilder told) {
        for (int what = 2; what < 8; what++) {
            told.append(x.world(what)).append(',');
        }
        told.append(x.count(3)).append(' ').append(x.closed(1)).append(' ').append(x.models(3, true));
        for (int a = 0; a < x.world(0); a++) {
            for (int b = 0; b < x.world(0); b++) {
                told.append(x.of(a, b));
            }
        }
        int last = x.world(0) * x.world(0) * x.world(0) - 1;
        for (int law = 0; law < x.count(0); law++) {
            told.append(' ').append(x.side(law, false, last / 2)).append(x.side(law, true, last));
            told.append(x.witness(law, 0, 1)).append(x.law(law, 5)).append(x.law(law, 6));
        }
    }

    /** All that an object tells; it is of no use afterwards. */
    private static String drained(LawWorlds x) {
        StringBuilder told = new StringBuilder();
        tellState(x, told);
        tellMore(x, told);
        for (int left = x.undo(); left >= 0; left = x.undo()) {
            told.append("\n  undo ").append(left);
            tellState(x, told);
        }
        told.append("\n  restore ").append(x.restore());
        tellState(x, told);
        while (x.count(0) > 0) {
            x.removeLaw(0);
        }
        told.append("\n  text ").append(x.addLaws());
        tellState(x, told);
        return told.append("\n  typed ").append(x.type(';')).append(' ').append(x.addLaws()).toString();
    }

    // ---- objects

    private static void write(LawWorlds x, String text) {
        x.clearText();
        for (int i = 0; i < text.length(); i++) {
            x.type(text.charAt(i));
        }
    }

    /** Five laws, two of them off, four states, a snapshot, and sixty characters; all states differ. */
    private static LawWorlds full(String text) {
        LawWorlds x = new LawWorlds();
        write(x, "xy=x;xx=x;xyz=x(yz);x=x;xy=yx");
        x.addLaws();
        x.turnLaw(0, false);
        x.keep();
        x.turnLaw(4, false);
        x.take(3, 5000);
        x.put(0, 0, 1);
        write(x, text);
        return x;
    }

    private static LawWorlds oneThing() {
        LawWorlds x = new LawWorlds();
        x.take(1, 0);
        write(x, "x=x");
        x.addLaws();
        return x;
    }

    /** Of a and b comes a: the same if the things are exchanged, not so if the sides are. */
    private static LawWorlds symmetric() {
        LawWorlds x = new LawWorlds();
        x.take(2, 12);
        x.keep();
        return x;
    }

    private static LawWorlds between() {
        LawWorlds x = new LawWorlds();
        x.take(3, 0);
        write(x, "xy=yx;xx=x;y=y;x=y");
        x.addLaws();
        x.keep();
        x.turnLaw(3, false);
        write(x, "xy=x;xy=y");
        return x;
    }

    private static LawWorlds emptied() {
        LawWorlds x = between();
        for (int i = 0; i < 4; i++) {
            x.undo();
        }
        x.clearText();
        return x;
    }

    // ---- calls that are refused

    private static void fresh(Scene scene) {
        scene.refuses("take(2, 0)", NONE, x -> x.take(2, 0));
        scene.refuses("put(1, 1, 0)", NONE, x -> x.put(1, 1, 0));
        scene.refuses("rename(1, 1)", BAD, x -> x.rename(1, 1));
        scene.refuses("mirror()", NONE, LawWorlds::mirror);
        scene.refuses("addLaws()", -100, LawWorlds::addLaws);
        scene.refuses("removeLaw(0)", UNKNOWN, x -> x.removeLaw(0));
        scene.refuses("turnLaw(0, true)", UNKNOWN, x -> x.turnLaw(0, true));
        scene.refuses("turnLaw(0, false)", UNKNOWN, x -> x.turnLaw(0, false));
        scene.refuses("refute(0)", UNKNOWN, x -> x.refute(0));
        scene.refuses("undo()", NONE, LawWorlds::undo);
        scene.refuses("restore()", NONE, LawWorlds::restore);
        scene.refuses("clearText() of no text", 0, LawWorlds::clearText);
        scene.refuses("law(0, 0)", UNKNOWN, x -> x.law(0, 0));
        scene.refuses("side(0, true, 0)", UNKNOWN, x -> x.side(0, true, 0));
        scene.refuses("witness(0, 0, 0)", UNKNOWN, x -> x.witness(0, 0, 0));
        scene.refuses("model(2, 10)", NONE, x -> x.model(2, 10));
        scene.refuses("paired(2, 0, 0)", UNKNOWN, x -> x.paired(2, 0, 0));
        refusedByArguments(scene, 2, 0);
    }

    private static void full(Scene scene) {
        scene.refuses("addLaws()", FULL, LawWorlds::addLaws);
        char[] typed = {'x', ';', '\u0000', '\uffff'};
        for (char character : typed) {
            scene.refuses("type of " + (int) character, FULL, x -> x.type(character));
        }
        scene.refuses("take of the world that it is", NONE, x -> x.take(3, 4999));
        scene.refuses("put(0, 0, 1)", NONE, x -> x.put(0, 0, 1));
        scene.refuses("rename(2, 2)", BAD, x -> x.rename(2, 2));
        scene.refuses("turnLaw(0, false)", NONE, x -> x.turnLaw(0, false));
        scene.refuses("turnLaw(1, true)", NONE, x -> x.turnLaw(1, true));
        scene.refuses("turnLaw(4, false)", NONE, x -> x.turnLaw(4, false));
        scene.refuses("refute of a law that follows", NONE, x -> x.refute(3));
        scene.refuses("witness of a law that follows", NONE, x -> x.witness(3, 0, 0));
        scene.refuses("law(3, 6) of a law that holds", NONE, x -> x.law(3, 6));
        scene.refuses("model(3, 3330)", NONE, x -> x.model(3, 3330));
        refusedByArguments(scene, 3, 5);
    }

    private static void fault(Scene scene) {
        scene.refuses("addLaws() of a fault at the end", -159, LawWorlds::addLaws);
        scene.refuses("type", FULL, x -> x.type(')'));
    }

    private static void oneThing(Scene scene) {
        scene.refuses("take(1, 0)", NONE, x -> x.take(1, 0));
        scene.refuses("put(0, 0, 0)", NONE, x -> x.put(0, 0, 0));
        scene.refuses("rename(0, 0)", BAD, x -> x.rename(0, 0));
        scene.refuses("mirror()", NONE, LawWorlds::mirror);
        scene.refuses("turnLaw(0, true)", NONE, x -> x.turnLaw(0, true));
        scene.refuses("refute(0)", NONE, x -> x.refute(0));
        scene.refuses("restore()", NONE, LawWorlds::restore);
        scene.refuses("law(0, 6)", NONE, x -> x.law(0, 6));
        scene.refuses("witness(0, 0, 2)", NONE, x -> x.witness(0, 0, 2));
        scene.refuses("model(1, 1)", NONE, x -> x.model(1, 1));
        refusedByArguments(scene, 1, 1);
    }

    private static void symmetric(Scene scene) {
        scene.refuses("take(2, 12)", NONE, x -> x.take(2, 12));
        scene.refuses("rename(0, 1)", NONE, x -> x.rename(0, 1));
        scene.refuses("rename(1, 0)", NONE, x -> x.rename(1, 0));
        scene.refuses("addLaws()", -100, LawWorlds::addLaws);
        refusedByArguments(scene, 2, 0);
    }

    private static void between(Scene scene) {
        scene.refuses("addLaws() of two, all or none", FULL, LawWorlds::addLaws);
        scene.refuses("addLaws() twice", FULL, x -> x.addLaws() + x.addLaws() - FULL);
        scene.refuses("mirror()", NONE, LawWorlds::mirror);
        scene.refuses("rename(1, 2)", NONE, x -> x.rename(1, 2));
        scene.refuses("turnLaw(3, false)", NONE, x -> x.turnLaw(3, false));
        scene.refuses("refute(2)", NONE, x -> x.refute(2));
        refusedByArguments(scene, 3, 4);
    }

    private static void emptied(Scene scene) {
        scene.refuses("undo()", NONE, LawWorlds::undo);
        scene.refuses("take(2, 0)", NONE, x -> x.take(2, 0));
        scene.refuses("addLaws()", -100, LawWorlds::addLaws);
        scene.refuses("clearText() of no text", 0, LawWorlds::clearText);
        refusedByArguments(scene, 2, 0);
    }

    /** Each argument of each call, with the first values outside and with far ones, the others being in their ranges. */
    private static void refusedByArguments(Scene scene, int size, int laws) {
        for (int far : FAR) {
            scene.refuses("take(" + far + ", 0)", BAD, x -> x.take(far, 0));
            scene.refuses("take(2, " + far + ")", BAD, x -> x.take(2, far));
            refusesThing(scene, far);
            refusesLaw(scene, far);
            refusesTold(scene, far);
        }
        refusesThing(scene, size);
        refusesLaw(scene, laws);
        int[] sizes = {0, 4};
        for (int none : sizes) {
            scene.refuses("take(" + none + ", 0)", BAD, x -> x.take(none, 0));
            scene.refuses("model(" + none + ", 0)", BAD, x -> x.model(none, 0));
            scene.refuses("models(" + none + ", true)", BAD, x -> x.models(none, true));
            scene.refuses("paired(" + none + ", 0, 0)", BAD, x -> x.paired(none, 0, 0));
            scene.refuses("alike(" + none + ", 0, 0)", BAD, x -> x.alike(none, 0, 0));
        }
        scene.refuses("take(1, 1)", BAD, x -> x.take(1, 1));
        scene.refuses("take(2, 16)", BAD, x -> x.take(2, 16));
        scene.refuses("take(3, 19683)", BAD, x -> x.take(3, 19683));
        scene.refuses("paired(2, 16, 0)", BAD, x -> x.paired(2, 16, 0));
        scene.refuses("alike(2, 16, 0)", BAD, x -> x.alike(2, 16, 0));
        scene.refuses("alike(3, 0, 19683)", BAD, x -> x.alike(3, 0, 19683));
        scene.refuses("world(8)", BAD, x -> x.world(8));
        scene.refuses("count(6)", BAD, x -> x.count(6));
        scene.refuses("closed of one thing more", BAD, x -> x.closed(1 << size));
        if (laws > 0) {
            refusesWhat(scene, size);
        }
    }

    private static void refusesThing(Scene scene, int thing) {
        scene.refuses("put of a " + thing, UNKNOWN, x -> x.put(thing, 0, 0));
        scene.refuses("put of b " + thing, UNKNOWN, x -> x.put(0, thing, 0));
        scene.refuses("put of value " + thing, UNKNOWN, x -> x.put(0, 0, thing));
        scene.refuses("rename of a " + thing, UNKNOWN, x -> x.rename(thing, 0));
        scene.refuses("rename of b " + thing, UNKNOWN, x -> x.rename(0, thing));
        scene.refuses("rename of both " + thing, UNKNOWN, x -> x.rename(thing, thing));
        scene.refuses("of a " + thing, UNKNOWN, x -> x.of(thing, 0));
        scene.refuses("of b " + thing, UNKNOWN, x -> x.of(0, thing));
    }

    private static void refusesLaw(Scene scene, int law) {
        scene.refuses("removeLaw(" + law + ")", UNKNOWN, x -> x.removeLaw(law));
        scene.refuses("turnLaw(" + law + ", true)", UNKNOWN, x -> x.turnLaw(law, true));
        scene.refuses("turnLaw(" + law + ", false)", UNKNOWN, x -> x.turnLaw(law, false));
        scene.refuses("refute(" + law + ")", UNKNOWN, x -> x.refute(law));
        scene.refuses("law(" + law + ", 4)", UNKNOWN, x -> x.law(law, 4));
        scene.refuses("side(" + law + ", true, 0)", UNKNOWN, x -> x.side(law, true, 0));
        scene.refuses("witness(" + law + ", 0, 0)", UNKNOWN, x -> x.witness(law, 0, 0));
        scene.refuses("paired(3, 0, " + law + ")", UNKNOWN, x -> x.paired(3, 0, law));
    }

    private static void refusesTold(Scene scene, int far) {
        scene.refuses("world(" + far + ")", BAD, x -> x.world(far));
        scene.refuses("closed(" + far + ")", BAD, x -> x.closed(far));
        scene.refuses("model(" + far + ", 0)", BAD, x -> x.model(far, 0));
        scene.refuses("models(" + far + ", false)", BAD, x -> x.models(far, false));
        scene.refuses("paired(" + far + ", 0, 0)", BAD, x -> x.paired(far, 0, 0));
        scene.refuses("paired(2, " + far + ", 0)", BAD, x -> x.paired(2, far, 0));
        scene.refuses("alike(" + far + ", 0, 0)", BAD, x -> x.alike(far, 0, 0));
        scene.refuses("alike(2, " + far + ", 0)", BAD, x -> x.alike(2, far, 0));
        scene.refuses("alike(2, 0, " + far + ")", BAD, x -> x.alike(2, 0, far));
        scene.refuses("count(" + far + ")", BAD, x -> x.count(far));
        scene.refuses("model(2, " + far + ")", far < 0 ? BAD : NONE, x -> x.model(2, far));
    }

    private static void refusesWhat(Scene scene, int size) {
        int cases = size * size * size;
        int[] outside = {-1, LEAST, MOST, 27};
        for (int value : outside) {
            scene.refuses("law(0, " + value + ")", BAD, x -> x.law(0, value));
            scene.refuses("side(0, false, " + value + ")", BAD, x -> x.side(0, false, value));
            scene.refuses("witness(0, 0, " + value + ")", BAD, x -> x.witness(0, 0, value));
            scene.refuses("witness(0, " + value + ", 0)", value < 0 ? BAD : NONE, x -> x.witness(0, value, 0));
        }
        scene.refuses("law(0, 7)", BAD, x -> x.law(0, 7));
        scene.refuses("side(0, true, " + cases + ")", BAD, x -> x.side(0, true, cases));
        scene.refuses("witness(0, 0, 3)", BAD, x -> x.witness(0, 0, 3));
        scene.refuses("witness(0, 12, 0)", NONE, x -> x.witness(0, 12, 0));
    }

    /** A text with a fault adds none of the laws before it, and stays. */
    private static void textFaults() {
        String[] texts = {"x=y;", "x=y;x", "x=y;y=z;x==", "x=y;xx=(", "x=y;((((", "x=y;xxxxxxxxx", "x=y)", "x=y;x=y;x=y;x=y;x=y;x=y;"};
        int[] faults = {4, 5, 10, 8, 7, 12, 3, 24};
        for (int i = 0; i < texts.length; i++) {
            String text = texts[i];
            Scene scene = new Scene("the text " + text, () -> {
                LawWorlds x = between();
                write(x, text);
                return x;
            });
            scene.refuses("addLaws()", -100 - faults[i], LawWorlds::addLaws);
        }
    }

    /** Many refused calls, one after another, on one object. */
    private static void manyRefused(Scene scene) {
        LawWorlds x = scene.made.one();
        for (int far : FAR) {
            x.take(far, 0);
            x.put(far, 0, 0);
            x.put(0, far, 0);
            x.put(0, 0, far);
            x.rename(far, 1);
            x.rename(1, far);
            x.removeLaw(far);
            x.turnLaw(far, true);
            x.refute(far);
            x.addLaws();
            x.mirror();
            x.turnLaw(3, false);
            x.refute(2);
            x.rename(1, 1);
        }
        scene.leaves("many refused calls", x);
    }

    /** Calls that tell, answered or refused, change nothing either. */
    private static void whatIsTold(Scene scene) {
        LawWorlds x = scene.made.one();
        for (int i = -1; i <= 3; i++) {
            x.world(i);
            x.world(i + 5);
            x.count(i);
            x.count(i + 4);
            x.closed(i);
            x.model(i, 0);
            x.model(3, i);
            x.models(i, true);
            x.models(i, false);
            for (int j = -1; j <= 3; j++) {
                x.of(i, j);
                x.law(i, j);
                x.law(i, j + 4);
                x.side(i, true, j);
                x.side(i, false, j);
                x.witness(i, 0, j);
                x.paired(j, 0, i);
                x.alike(i, j, 0);
            }
        }
        scene.leaves("all calls that tell", x);
    }
}
