// Each promise of the document by itself: ordinary inputs, edges, wrong inputs.
public final class LawWorldsPromises {
    private static final int UNKNOWN = -1;
    private static final int BAD = -2;
    private static final int FULL = -3;
    private static final int NONE = -5;
    private static final int[] OFF_INTS = {-1, Integer.MIN_VALUE, Integer.MAX_VALUE, -7, 1000};
    private static final String COMMUTATIVE = "xy=yx";
    private static final String ASSOCIATIVE = "(xy)z=x(yz)";
    private static final String LEFT = "xy=x";
    private static final String RIGHT = "xy=y";
    private static final String IDEMPOTENT = "xx=x";

    private static int wrong = 0;
    private static String promise = "";

    private static void due(String call, int got, int want) {
        if (got != want) {
            wrong++;
            System.out.println(promise + ": " + call + " answered " + got + ", due is " + want);
        }
    }

    private static LawWorlds at(int size, int code) {
        LawWorlds x = new LawWorlds();
        x.take(size, code);
        return x;
    }

    private static void write(LawWorlds x, String text) {
        x.clearText();
        for (int i = 0; i < text.length(); i++) {
            x.type(text.charAt(i));
        }
    }

    private static int add(LawWorlds x, String text) {
        write(x, text);
        return x.addLaws();
    }

    private static LawWorlds with(int size, int code, String text) {
        LawWorlds x = at(size, code);
        due("addLaws of " + text + " is no error, 1", add(x, text) > 0 ? 1 : 0, 1);
        return x;
    }

    /** The code of a world by its table, row by row. */
    private static int code(int size, int... table) {
        int code = 0;
        for (int i = table.length - 1; i >= 0; i--) {
            code = code * size + table[i];
        }
        return code;
    }

    public static void main(String[] args) {
        newObject();
        take();
        put();
        rename();
        mirror();
        addLaws();
        addLawsFaults();
        addLawsFull();
        removeLaw();
        turnLaw();
        refute();
        type();
        clearText();
        undo();
        undoOfEachAct();
        lawsOfOldStates();
        errorsRecordNothing();
        keepAndRestore();
        of();
        world();
        closed();
        law();
        side();
        witness();
        model();
        models();
        paired();
        alike();
        count();
        System.out.println(wrong == 0 ? "all promises hold" : wrong + " answers are not as due");
        if (wrong != 0) {
            System.exit(1);
        }
    }

    private static void newObject() {
        promise = "1";
        LawWorlds x = new LawWorlds();
        due("world(0)", x.world(0), 2);
        due("world(1)", x.world(1), 0);
        due("world(7)", x.world(7), 1);
        for (int what = 0; what < 6; what++) {
            due("count(" + what + ")", x.count(what), 0);
        }
        due("undo()", x.undo(), NONE);
        due("restore()", x.restore(), NONE);
    }

    private static void take() {
        promise = "2";
        LawWorlds x = new LawWorlds();
        due("take(2, 0)", x.take(2, 0), NONE);
        due("take(1, 0)", x.take(1, 0), 0);
        due("world(0)", x.world(0), 1);
        due("take(3, 19682)", x.take(3, 19682), 0);
        due("take(3, 19682)", x.take(3, 19682), NONE);
        due("take(2, 15)", x.take(2, 15), 19682);
        due("take(3, 15)", x.take(3, 15), 15);
        due("count(4)", x.count(4), 4);
        due("take(3, 19683)", x.take(3, 19683), BAD);
        due("take(2, 16)", x.take(2, 16), BAD);
        due("take(1, 1)", x.take(1, 1), BAD);
        due("take(0, 0)", x.take(0, 0), BAD);
        due("take(4, 0)", x.take(4, 0), BAD);
        for (int off : OFF_INTS) {
            due("take(" + off + ", 0)", x.take(off, 0), BAD);
            due("take(2, " + off + ")", x.take(2, off), BAD);
        }
        due("world(0)", x.world(0), 3);
        due("world(1)", x.world(1), 15);
    }

    private static void put() {
        promise = "3";
        LawWorlds x = new LawWorlds();
        due("put(0, 1, 1)", x.put(0, 1, 1), 2);
        due("put(1, 0, 1)", x.put(1, 0, 1), 6);
        due("put(1, 0, 1)", x.put(1, 0, 1), NONE);
        due("put(0, 1, 0)", x.put(0, 1, 0), 4);
        due("count(4)", x.count(4), 3);
        for (int off : OFF_INTS) {
            due("put(off, 0, 0)", x.put(off, 0, 0), UNKNOWN);
            due("put(0, off, 0)", x.put(0, off, 0), UNKNOWN);
            due("put(0, 0, off)", x.put(0, 0, off), UNKNOWN);
        }
        due("put(2, 0, 0)", x.put(2, 0, 0), UNKNOWN);
        due("put(0, 2, 0)", x.put(0, 2, 0), UNKNOWN);
        due("put(0, 0, 2)", x.put(0, 0, 2), UNKNOWN);
        due("world(1)", x.world(1), 4);
        x = at(3, 0);
        due("put(2, 1, 2)", x.put(2, 1, 2), 2 * 2187);
        due("put(2, 2, 1)", x.put(2, 2, 1), 2 * 2187 + 6561);
        due("put(2, 1, 1)", x.put(2, 1, 1), 2187 + 6561);
        due("of(2, 1)", x.of(2, 1), 1);
        due("put(3, 0, 0)", x.put(3, 0, 0), UNKNOWN);
        x = at(1, 0);
        due("put(0, 0, 0)", x.put(0, 0, 0), NONE);
        due("put(0, 0, 1)", x.put(0, 0, 1), UNKNOWN);
    }

    private static void rename() {
        promise = "4";
        LawWorlds x = at(3, 2);
        due("rename(0, 1)", x.rename(0, 1), 9841 + 81);
        due("rename(1, 0)", x.rename(1, 0), 2);
        due("rename(1, 2)", x.rename(1, 2), 1);
        due("rename(1, 2)", x.rename(2, 1), 2);
        due("rename(2, 0)", x.rename(2, 0), 19682 - 13122);
        due("rename(0, 0)", x.rename(0, 0), BAD);
        due("rename(2, 2)", x.rename(2, 2), BAD);
        due("rename(3, 3)", x.rename(3, 3), UNKNOWN);
        for (int off : OFF_INTS) {
            due("rename(off, 0)", x.rename(off, 0), UNKNOWN);
            due("rename(0, off)", x.rename(0, off), UNKNOWN);
            due("rename(off, off)", x.rename(off, off), UNKNOWN);
        }
        due("world(1)", x.world(1), 6560);
        x = at(2, 12);
        due("rename(0, 1)", x.rename(0, 1), NONE);
        due("rename(0, 2)", x.rename(0, 2), UNKNOWN);
        due("count(4)", x.count(4), 1);
        x = at(3, code(3, 0, 1, 2, 1, 2, 0, 2, 0, 1));
        due("rename(1, 2)", x.rename(1, 2), NONE);
        due("rename(0, 1)", x.rename(0, 1), code(3, 2, 0, 1, 0, 1, 2, 1, 2, 0));
        x = at(1, 0);
        due("rename(0, 0)", x.rename(0, 0), BAD);
        due("rename(0, 1)", x.rename(0, 1), UNKNOWN);
    }

    private static void mirror() {
        promise = "5";
        LawWorlds x = at(2, 12);
        due("mirror()", x.mirror(), 10);
        due("mirror()", x.mirror(), 12);
        due("count(4)", x.count(4), 3);
        x = at(2, 6);
        due("mirror()", x.mirror(), NONE);
        due("count(4)", x.count(4), 1);
        x = at(3, code(3, 0, 1, 2, 2, 1, 0, 1, 1, 2));
        due("mirror()", x.mirror(), code(3, 0, 2, 1, 1, 1, 1, 2, 0, 2));
        due("mirror()", at(1, 0).mirror(), NONE);
    }

    private static void addLaws() {
        promise = "6";
        LawWorlds x = new LawWorlds();
        due("addLaws xy=yx;xx=x", add(x, "xy=yx;xx=x"), 2);
        due("count(5)", x.count(5), 10);
        due("count(0)", x.count(0), 2);
        due("count(1)", x.count(1), 2);
        due("count(4)", x.count(4), 1);
        due("addLaws() again", x.addLaws(), 2);
        due("count(0)", x.count(0), 4);
        due("law(0, 2)", x.law(0, 2), 4);
        due("law(3, 2)", x.law(3, 2), 3);
        due("one act each", x.undo(), 1);
        due("count(0)", x.count(0), 2);
        due("addLaws x=y", add(x, "x=y"), 1);
        due("law(2, 3)", x.law(2, 3), 3);
        // The parts are put together from the left on.
        x = with(2, code(2, 1, 0, 0, 0), "xyz=(xy)z;xyz=x(yz);x(yz)(zx)y=((x(yz))(zx))y");
        due("law(0, 1)", x.law(0, 1), 0);
        due("law(1, 1)", x.law(1, 1), 4);
        due("law(2, 1)", x.law(2, 1), 0);
        // Each side has eight letters and three open brackets of its own.
        x = with(2, 6, "(x(y(zx)))yzxy=xyzxyzxy;(((x)))=((x)(y))");
        due("law(0, 2)", x.law(0, 2), 16);
        due("law(1, 2)", x.law(1, 2), 3);
        due("sides of single letters", add(new LawWorlds(), "x=x;y=y;z=z;x=y;y=z"), 5);
    }

    private static void fault(String text, int index) {
        LawWorlds x = new LawWorlds();
        due("addLaws of " + text, add(x, text), -100 - index);
        due("laws after " + text, x.count(0), 0);
        due("history after " + text, x.count(4), 0);
        due("text after " + text, x.count(5), text.length());
    }

    private static void addLawsFaults() {
        promise = "6, faults";
        String[] early = {"", "x", "x=", "xy", "(x", "((x)", "x=y;", "x=(", "x=(y", "x=y;z", "x=y;z=", "xxxxxxxx("};
        for (String text : early) {
            fault(text, text.length());
        }
        fault("=", 0);
        fault(";", 0);
        fault(")", 0);
        fault("a", 0);
        fault("w=x", 0);
        fault("{=x", 0);
        fault(" x=y", 0);
        fault("X=y", 0);
        fault("x =y", 1);
        fault("x)", 1);
        fault("x;", 1);
        fault("x=y=z", 3);
        fault("x==y", 2);
        fault("x=;", 2);
        fault("x=)", 2);
        fault("x=y)", 3);
        fault("x=y;;", 4);
        fault("x=y;=", 4);
        fault("()", 1);
        fault("x()", 2);
        fault("(=", 1);
        fault("(x=y)", 2);
        fault("(x;", 2);
        fault("x=(y;", 4);
        fault("x=(y=", 4);
        fault("((((x", 3);
        fault("(((x)((", 6);
        fault("(((x))(((", 8);
        fault("x=y(((x)))(((x((", 14);
        fault("xxxxxxxxx", 8);
        fault("xyzxyzxyz=x", 8);
        fault("xxxx(xxxxx)=x", 9);
        fault("xxxxxxxx((x", 10);
        fault("xxxxxxxx()", 9);
        fault("(((xxxxxxxx)))y=x", 14);
        fault("x=xxxxxxxxx", 10);
        fault("xxxxxxxx=xxxxxxxx;xxxxxxxxx", 26);
        fault("x=y;x=y?", 7);
        fault("x=y\u0000", 3);
        fault("x=y\uffff", 3);
        fault("x=\u0178", 2);
        fault("x=\u0478", 2);
    }

    private static void addLawsFull() {
        promise = "6, full";
        LawWorlds x = new LawWorlds();
        due("six laws", add(x, "x=y;x=y;x=y;x=y;x=y;x=y"), FULL);
        due("fifteen laws", add(x, "x=y;x=y;x=y;x=y;x=y;x=y;x=y;x=y;x=y;x=y;x=y;x=y;x=y;x=y;x=y"), FULL);
        due("a fault comes first", add(x, "x=y;x=y;x=y;x=y;x=y;x=y;"), -124);
        due("count(0)", x.count(0), 0);
        due("count(4)", x.count(4), 0);
        due("four laws", add(x, "x=y;x=z;y=z;xx=y"), 4);
        due("two more", add(x, "xy=yx;x=x"), FULL);
        due("count(0)", x.count(0), 4);
        due("one more", add(x, "xy=yx"), 1);
        due("a sixth", x.addLaws(), FULL);
        due("a fault comes first", add(x, "xy=y("), -105);
        due("count(4)", x.count(4), 2);
        x.removeLaw(0);
        due("one in its place", add(x, "z=z"), 1);
        due("law(4, 3)", x.law(4, 3), 4);
    }

    private static void removeLaw() {
        promise = "7";
        LawWorlds x = with(2, 6, "x=x;x=y;xx=z;z=z");
        x.turnLaw(2, false);
        due("removeLaw(4)", x.removeLaw(4), UNKNOWN);
        for (int off : OFF_INTS) {
            due("removeLaw(off)", x.removeLaw(off), UNKNOWN);
        }
        due("count(4)", x.count(4), 3);
        due("removeLaw(1)", x.removeLaw(1), 3);
        due("law(0, 3)", x.law(0, 3), 1);
        due("law(1, 3)", x.law(1, 3), 5);
        due("law(1, 0)", x.law(1, 0), 0);
        due("law(2, 3)", x.law(2, 3), 4);
        due("law(2, 0)", x.law(2, 0), 1);
        due("law(3, 3)", x.law(3, 3), UNKNOWN);
        due("removeLaw(2)", x.removeLaw(2), 2);
        due("removeLaw(0)", x.removeLaw(0), 1);
        due("removeLaw(0)", x.removeLaw(0), 0);
        due("removeLaw(0)", x.removeLaw(0), UNKNOWN);
        due("undo()", x.undo(), 3);
        due("law(0, 3)", x.law(0, 3), 5);
        due("law(0, 0)", x.law(0, 0), 0);
    }

    private static void turnLaw() {
        promise = "8";
        LawWorlds x = with(2, 6, "xy=yx;x=y;z=z");
        due("turnLaw(1, true)", x.turnLaw(1, true), NONE);
        due("turnLaw(1, false)", x.turnLaw(1, false), 2);
        due("turnLaw(1, false)", x.turnLaw(1, false), NONE);
        due("turnLaw(0, false)", x.turnLaw(0, false), 1);
        due("turnLaw(2, false)", x.turnLaw(2, false), 0);
        due("turnLaw(1, true)", x.turnLaw(1, true), 1);
        due("count(4)", x.count(4), 4);
        due("turnLaw(3, true)", x.turnLaw(3, true), UNKNOWN);
        due("turnLaw(3, false)", x.turnLaw(3, false), UNKNOWN);
        for (int off : OFF_INTS) {
            due("turnLaw(off, true)", x.turnLaw(off, true), UNKNOWN);
        }
        due("law(1, 0)", x.law(1, 0), 1);
        due("law(0, 0)", x.law(0, 0), 0);
        due("models(3, false)", x.models(3, false), 0);
        x.turnLaw(1, false);
        due("models(3, false)", x.models(3, false), 3330);
    }

    private static void refute() {
        promise = "9";
        // 12 is the world of two things in which xy=x; 4 and 8 differ from it in one place.
        LawWorlds x = with(3, 7, LEFT);
        due("refute(0)", x.refute(0), 4);
        due("world(0)", x.world(0), 2);
        due("law(0, 1)", x.law(0, 1), 2);
        due("count(4)", x.count(4), 3);
        due("refute(0) again is an act", x.refute(0), 4);
        due("count(4)", x.count(4), 4);
        due("world(1)", x.world(1), 4);
        due("refute(1)", x.refute(1), UNKNOWN);
        for (int off : OFF_INTS) {
            due("refute(off)", x.refute(off), UNKNOWN);
        }
        x = with(2, 6, "x=x;" + COMMUTATIVE + ";" + COMMUTATIVE);
        due("a law that always holds", x.refute(0), NONE);
        due("a law that is there twice", x.refute(1), NONE);
        due("count(4)", x.count(4), 2);
        x.turnLaw(2, false);
        due("a law whose copy is off", x.refute(1), x.witness(1, 0, 1));
        due("world(1)", x.world(1), 2);
        x.turnLaw(1, false);
        x.turnLaw(2, true);
        due("a law that is off, its copy on", x.refute(1), NONE);
    }

    private static void type() {
        promise = "10";
        LawWorlds x = new LawWorlds();
        for (int i = 1; i <= 60; i++) {
            due("type", x.type((char) (i * 1091)), i);
        }
        due("type", x.type('x'), FULL);
        due("type", x.type('\uffff'), FULL);
        due("count(5)", x.count(5), 60);
        due("count(4)", x.count(4), 0);
        due("addLaws()", x.addLaws(), -100);
        String full = "xyzxyzxy=xyzxyzxy;xyzxyzxy=xyzxyzxy;xyzxyzxy=xyzxyzxy;(x)=yz";
        write(x, full);
        due("count(5)", x.count(5), 60);
        due("addLaws()", x.addLaws(), 4);
        for (int law = 0; law < 3; law++) {
            due("letters of law " + law, x.law(law, 2), 16);
            due("cases of law " + law, x.law(law, 1), 0);
        }
        due("letters of law 3", x.law(3, 2), 3);
        due("set of law 3", x.law(3, 3), 7);
        write(x, "xyzxyzxy=xyzxyzxy;xyzxyzxy=xyzxyzxy;xyzxyzxy=xyzxyzxy;(xx)=(");
        due("addLaws()", x.addLaws(), -160);
    }

    private static void clearText() {
        promise = "11";
        LawWorlds x = new LawWorlds();
        due("clearText()", x.clearText(), 0);
        write(x, LEFT);
        due("clearText()", x.clearText(), 4);
        due("clearText()", x.clearText(), 0);
        due("count(5)", x.count(5), 0);
        due("count(4)", x.count(4), 0);
        due("addLaws()", x.addLaws(), -100);
        due("type", x.type('y'), 1);
        due("addLaws()", x.addLaws(), -101);
    }

    private static void undo() {
        promise = "12";
        LawWorlds x = new LawWorlds();
        due("undo()", x.undo(), NONE);
        for (int i = 1; i <= 6; i++) {
            x.take(3, i);
        }
        due("count(4)", x.count(4), 4);
        for (int i = 3; i >= 0; i--) {
            due("undo()", x.undo(), i);
            due("world(1)", x.world(1), i + 2);
        }
        due("undo()", x.undo(), NONE);
        due("world(1)", x.world(1), 2);
        x.take(2, 9);
        due("undo()", x.undo(), 0);
        due("world(0)", x.world(0), 3);
        // The text and the snapshot are no part of a state.
        x = new LawWorlds();
        x.take(2, 3);
        x.keep();
        x.take(2, 5);
        x.type('x');
        x.type('=');
        x.undo();
        x.undo();
        due("count(5)", x.count(5), 2);
        due("restore()", x.restore(), 0);
        due("world(1)", x.world(1), 3);
    }

    private static void undoOfEachAct() {
        promise = "12, each act";
        for (int act = 0; act < 9; act++) {
            LawWorlds x = with(3, 5000, "xy=x;y=yz");
            x.turnLaw(1, false);
            x.keep();
            act(x, act);
            due("states after act " + act, x.count(4), 4);
            due("undo of act " + act, x.undo(), 3);
            due("size, act " + act, x.world(0), 3);
            due("code, act " + act, x.world(1), 5000);
            due("laws, act " + act, x.count(0), 2);
            due("laws on, act " + act, x.count(1), 1);
            due("law(0, 3), act " + act, x.law(0, 3), 3);
            due("law(1, 3), act " + act, x.law(1, 3), 6);
            due("law(1, 0), act " + act, x.law(1, 0), 0);
        }
    }

    /** No law of a state that can come back gives way to a newer one. */
    private static void lawsOfOldStates() {
        promise = "12, laws of old states";
        LawWorlds x = new LawWorlds();
        add(x, "xxx=y");
        x.removeLaw(0);
        x.take(2, 1);
        x.take(2, 2);
        add(x, "z=z");
        due("law(0, 2)", x.law(0, 2), 2);
        for (int left = 3; left >= 0; left--) {
            due("undo()", x.undo(), left);
        }
        due("law(0, 2) of the oldest state", x.law(0, 2), 4);
        x = new LawWorlds();
        x.keep();
        add(x, "x=y;x=z;y=x;y=z;z=x");
        x.restore();
        add(x, "xx=y;xx=z;yy=x;yy=z;zz=x");
        x.restore();
        due("five more laws", add(x, "xxx=y;xxx=z;yyy=x;yyy=z;zzz=x"), 5);
        for (int letters = 4; letters >= 2; letters--) {
            int[] sets = {3, 5, 3, 6, 5};
            due("count(0)", x.count(0), 5);
            for (int law = 0; law < 5; law++) {
                due("letters of law " + law, x.law(law, 2), letters);
                due("set of law " + law, x.law(law, 3), sets[law]);
            }
            due("undo() to no laws", x.undo(), letters == 4 ? 3 : letters == 3 ? 1 : NONE);
            x.undo();
        }
    }

    private static void act(LawWorlds x, int act) {
        switch (act) {
            case 0 -> x.take(1, 0);
            case 1 -> x.put(0, 0, 1);
            case 2 -> x.rename(0, 1);
            case 3 -> x.mirror();
            case 4 -> x.addLaws();
            case 5 -> x.removeLaw(0);
            case 6 -> x.turnLaw(1, true);
            case 7 -> x.refute(0);
            default -> x.restore();
        }
    }

    private static void errorsRecordNothing() {
        promise = "errors and NONE change nothing";
        LawWorlds x = with(2, 6, "xy=yx;x=x");
        int states = x.count(4);
        x.take(2, 6);
        x.take(2, 16);
        x.put(0, 0, 0);
        x.put(0, 0, 2);
        x.rename(0, 0);
        x.rename(0, 2);
        x.mirror();
        x.clearText();
        x.addLaws();
        x.removeLaw(2);
        x.turnLaw(0, true);
        x.turnLaw(2, true);
        x.refute(1);
        x.refute(2);
        x.restore();
        x.type('x');
        x.keep();
        x.clearText();
        due("count(4)", x.count(4), states);
        due("world(1)", x.world(1), 6);
        due("count(0)", x.count(0), 2);
    }

    private static void keepAndRestore() {
        promise = "13, 14";
        LawWorlds x = new LawWorlds();
        due("restore()", x.restore(), NONE);
        due("keep()", x.keep(), 0);
        due("count(4)", x.count(4), 0);
        due("restore() of the same state is an act", x.restore(), 0);
        due("count(4)", x.count(4), 1);
        add(x, "xy=yx;x=y;y=z");
        x.turnLaw(1, false);
        x.take(3, 99);
        due("keep()", x.keep(), 3);
        x.removeLaw(0);
        x.removeLaw(0);
        add(x, "xx=xx;xx=xx;xx=xx;xx=xx");
        x.take(1, 0);
        due("restore()", x.restore(), 3);
        due("world(0)", x.world(0), 3);
        due("world(1)", x.world(1), 99);
        due("law(0, 2)", x.law(0, 2), 4);
        due("law(1, 0)", x.law(1, 0), 0);
        due("law(2, 3)", x.law(2, 3), 6);
        due("count(1)", x.count(1), 2);
        due("count(4)", x.count(4), 4);
        due("undo() of restore", x.undo(), 3);
        due("world(0)", x.world(0), 1);
        due("count(0)", x.count(0), 5);
        x.removeLaw(0);
        due("restore() a second time", x.restore(), 3);
        due("count(5) is no part of it", x.count(5), 23);
        // A snapshot is not changed by later acts, nor by those after it is restored.
        x.put(0, 0, 2);
        x.turnLaw(0, false);
        due("restore()", x.restore(), 3);
        due("world(1)", x.world(1), 99);
        due("law(0, 0)", x.law(0, 0), 1);
    }

    private static void of() {
        promise = "15";
        LawWorlds x = at(3, code(3, 0, 1, 2, 2, 1, 0, 1, 1, 2));
        int[] table = {0, 1, 2, 2, 1, 0, 1, 1, 2};
        for (int i = 0; i < 9; i++) {
            due("of(" + i / 3 + ", " + i % 3 + ")", x.of(i / 3, i % 3), table[i]);
        }
        due("of(3, 0)", x.of(3, 0), UNKNOWN);
        due("of(0, 3)", x.of(0, 3), UNKNOWN);
        for (int off : OFF_INTS) {
            due("of(off, 0)", x.of(off, 0), UNKNOWN);
            due("of(0, off)", x.of(0, off), UNKNOWN);
        }
        x = at(2, code(2, 0, 1, 0, 1));
        due("of(0, 1)", x.of(0, 1), 1);
        due("of(1, 0)", x.of(1, 0), 0);
        due("of(0, 2)", x.of(0, 2), UNKNOWN);
        due("of(0, 0)", at(1, 0).of(0, 0), 0);
        due("of(1, 0)", at(1, 0).of(1, 0), UNKNOWN);
    }

    private static void world() {
        promise = "16";
        LawWorlds x = at(3, 5000);
        int[] answers = {3, 5000, 3746, 6};
        for (int what = 0; what < 4; what++) {
            due("world(" + what + ")", x.world(what), answers[what]);
        }
        due("world(-1)", x.world(-1), BAD);
        due("world(8)", x.world(8), BAD);
        for (int off : OFF_INTS) {
            due("world(off)", x.world(off), BAD);
        }
        x = at(3, code(3, 0, 1, 2, 1, 2, 0, 2, 0, 1));
        due("addition: alike", x.world(3), 3);
        due("addition: stay", x.world(4), 1);
        due("addition: left", x.world(5), 1);
        due("addition: right", x.world(6), 1);
        x = at(3, code(3, 0, 0, 0, 1, 1, 1, 2, 2, 2));
        due("left things: alike", x.world(3), 1);
        due("left things: stay", x.world(4), 7);
        due("left things: left", x.world(5), 0);
        due("left things: right", x.world(6), 7);
        x.mirror();
        due("right things: left", x.world(5), 7);
        due("right things: right", x.world(6), 0);
        x = at(3, code(3, 1, 2, 0, 2, 0, 1, 0, 1, 2));
        due("shifted addition: left", x.world(5), 4);
        due("shifted addition: stay", x.world(4), 4);
        x = at(3, code(3, 1, 2, 0, 2, 0, 1, 1, 2, 0));
        due("no thing leaves all: left", x.world(5), 0);
        due("no thing stays", x.world(4), 0);
        due("turned thrice: alike", at(3, code(3, 1, 1, 1, 2, 2, 2, 0, 0, 0)).world(3), 2);
        x = at(2, 14);
        due("plain code of 14", x.world(2), 8);
        due("alike to 14", x.world(3), 2);
        due("left of 14", x.world(5), 1);
        x = at(1, 0);
        for (int what = 0; what < 8; what++) {
            due("world(" + what + ") of one thing", x.world(what), what == 1 || what == 2 ? 0 : 1);
        }
        x = with(2, 6, "xy=yx;x=y");
        due("a law on is broken", x.world(7), 0);
        x.turnLaw(1, false);
        due("a law off is broken", x.world(7), 1);
        x.take(2, 2);
        due("world(7)", x.world(7), 0);
        x.turnLaw(0, false);
        due("no law is on", x.world(7), 1);
    }

    private static void closed() {
        promise = "17";
        LawWorlds x = at(3, 5000);
        due("closed(0)", x.closed(0), 0);
        due("closed(1)", x.closed(1), 5);
        due("closed(6)", x.closed(6), 7);
        due("closed(7)", x.closed(7), 7);
        due("closed(8)", x.closed(8), BAD);
        due("closed(-1)", x.closed(-1), BAD);
        due("closed(least)", x.closed(Integer.MIN_VALUE), BAD);
        due("closed(most)", x.closed(Integer.MAX_VALUE), BAD);
        // A thing that comes of what has come: 2 of 1 and 1, 0 of 2 and 2 or of 1 and 2.
        x = at(3, code(3, 0, 0, 0, 0, 2, 0, 0, 0, 0));
        due("closed(2)", x.closed(2), 7);
        due("closed(4)", x.closed(4), 5);
        x = at(3, code(3, 0, 0, 0, 0, 2, 2, 2, 2, 1));
        due("closed(2)", x.closed(2), 6);
        due("closed(1)", x.closed(1), 1);
        due("closed(3)", x.closed(3), 7);
        x = at(3, code(3, 0, 2, 0, 0, 1, 0, 0, 0, 2));
        due("of 0 and 1 comes 2", x.closed(3), 7);
        x = at(3, code(3, 0, 0, 0, 2, 1, 0, 0, 0, 2));
        due("of 1 and 0 comes 2", x.closed(3), 7);
        due("closed(6)", x.closed(6), 7);
        due("closed(4)", x.closed(4), 4);
        due("closed(4) of two things", at(2, 0).closed(4), BAD);
        due("closed(2) of two things", at(2, 0).closed(2), 3);
        due("closed(2) of one thing", at(1, 0).closed(2), BAD);
        due("closed(1) of one thing", at(1, 0).closed(1), 1);
    }

    private static void law() {
        promise = "18";
        // Of 1 and 1 comes 1, of all others 0.
        LawWorlds x = with(2, 8, "xy=x;yx=yy;xz(yy)=z");
        due("law(0, 0)", x.law(0, 0), 1);
        due("xy=x breaks where x is 1 and y is 0", x.law(0, 1), 2);
        due("law(0, 2)", x.law(0, 2), 3);
        due("law(0, 3)", x.law(0, 3), 3);
        due("law(0, 6)", x.law(0, 6), 1);
        due("yx=yy breaks where y is 1 and x is 0", x.law(1, 1), 2);
        due("law(1, 2)", x.law(1, 2), 4);
        due("law(1, 6)", x.law(1, 6), 2);
        due("law(2, 1)", x.law(2, 1), 3);
        due("law(2, 2)", x.law(2, 2), 5);
        due("law(2, 3)", x.law(2, 3), 7);
        due("law(2, 6)", x.law(2, 6), 4);
        x.turnLaw(1, false);
        due("law(1, 0)", x.law(1, 0), 0);
        due("law(1, 1) of a law that is off", x.law(1, 1), 2);
        x.take(1, 0);
        due("law(0, 1)", x.law(0, 1), 0);
        due("law(0, 6)", x.law(0, 6), NONE);
        due("law(3, 0)", x.law(3, 0), UNKNOWN);
        due("law(3, 9)", x.law(3, 9), UNKNOWN);
        due("law(0, 7)", x.law(0, 7), BAD);
        due("law(0, -1)", x.law(0, -1), BAD);
        for (int off : OFF_INTS) {
            due("law(off, 0)", x.law(off, 0), UNKNOWN);
            due("law(0, off)", x.law(0, off), BAD);
        }
        x = with(3, code(3, 0, 1, 2, 1, 2, 0, 2, 0, 1), "xx=y;y=y;x=z;zzzzzzzz=zzzzzzzz;z=x");
        due("xx=y", x.law(0, 1), 18);
        due("xx=y, first", x.law(0, 6), 1);
        due("y=y", x.law(1, 1), 0);
        due("y=y, letters", x.law(1, 3), 2);
        due("x=z", x.law(2, 1), 18);
        due("x=z, letters", x.law(2, 3), 5);
        due("sixteen letters", x.law(3, 2), 16);
        due("one letter", x.law(3, 3), 4);
        following();
    }

    private static void following() {
        promise = "18, following";
        LawWorlds x = with(2, 0, LEFT + ";" + RIGHT + ";x=y");
        for (int i = 0; i < 3; i++) {
            due("law(" + i + ", 4)", x.law(i, 4), 1);
            due("law(" + i + ", 5)", x.law(i, 5), 0);
        }
        x.turnLaw(0, false);
        x.turnLaw(2, false);
        due("left, of right alone", x.law(0, 4), 0);
        due("left, of right alone: witnesses", x.law(0, 5), 2);
        due("same, of right alone", x.law(2, 5), 2);
        due("right, of none", x.law(1, 5), 12);
        due("right, of none", x.law(1, 4), 0);
        x = with(3, 1, LEFT + ";" + IDEMPOTENT + ";" + ASSOCIATIVE + ";xyx=x");
        due("left, of bands in which xyx=x", x.law(0, 5), 2);
        due("left things stay", x.law(1, 4), 1);
        due("left things are associative", x.law(2, 4), 1);
        x.turnLaw(0, false);
        due("left, off, of the others", x.law(0, 5), 2);
    }

    private static void side() {
        promise = "19";
        LawWorlds x = with(3, code(3, 0, 1, 2, 2, 1, 0, 1, 1, 2), "xy=z(yx)");
        int[] table = {0, 1, 2, 2, 1, 0, 1, 1, 2};
        for (int number = 0; number < 27; number++) {
            int a = number % 3;
            int b = number / 3 % 3;
            int c = number / 9;
            due("left side in " + number, x.side(0, false, number), table[3 * a + b]);
            due("right side in " + number, x.side(0, true, number), table[3 * c + table[3 * b + a]]);
        }
        due("case 27", x.side(0, true, 27), BAD);
        due("case -1", x.side(0, true, -1), BAD);
        due("law 1", x.side(1, true, 0), UNKNOWN);
        due("law 1, case 27", x.side(1, true, 27), UNKNOWN);
        for (int off : OFF_INTS) {
            due("law off", x.side(off, false, 0), UNKNOWN);
            due("case off", x.side(0, false, off), BAD);
        }
        add(x, "x(y(z(xy)))=x(y(z(xy)));xyzxyzxy=x(y(zxyzxy))");
        for (int number = 0; number < 27; number++) {
            int a = number % 3;
            int b = number / 3 % 3;
            int c = number / 9;
            int deep = table[3 * a + table[3 * b + table[3 * c + table[3 * a + b]]]];
            due("deep left side in " + number, x.side(1, false, number), deep);
            due("deep right side in " + number, x.side(1, true, number), deep);
            int row = table[3 * table[3 * table[3 * a + b] + c] + a];
            row = table[3 * table[3 * table[3 * table[3 * row + b] + c] + a] + b];
            due("long side in " + number, x.side(2, false, number), row);
        }
        x.turnLaw(0, false);
        x.take(2, 4);
        due("two things, x is 1, y is 0", x.side(0, false, 1), 1);
        due("two things, x is 0, y is 1", x.side(0, false, 2), 0);
        due("case 7", x.side(0, false, 7), 0);
        due("case 8", x.side(0, false, 8), BAD);
        x.take(1, 0);
        due("one thing", x.side(0, true, 0), 0);
        due("one thing, case 1", x.side(0, true, 1), BAD);
    }

    private static void witness() {
        promise = "20";
        LawWorlds x = with(2, 0, LEFT);
        due("cases of the first", x.witness(0, 0, 2), 2);
        due("size of the first", x.witness(0, 0, 0), 2);
        int before = 0;
        for (int rank = 0; rank < 12; rank++) {
            int size = x.witness(0, rank, 0);
            int code = x.witness(0, rank, 1);
            int broken = x.witness(0, rank, 2);
            int key = broken * 100000 + size * 20000 + code;
            due("rank " + rank + " is behind the one before, 1", key > before ? 1 : 0, 1);
            due("rank " + rank + " is plain, 1", at(size, code).world(2), code);
            LawWorlds there = with(size, code, LEFT);
            due("rank " + rank + " is broken so often", there.law(0, 1), broken);
            before = key;
        }
        due("rank 12", x.witness(0, 12, 0), NONE);
        due("rank most", x.witness(0, Integer.MAX_VALUE, 2), NONE);
        due("rank -1", x.witness(0, -1, 0), BAD);
        due("rank least", x.witness(0, Integer.MIN_VALUE, 0), BAD);
        due("what 3", x.witness(0, 0, 3), BAD);
        due("what -1", x.witness(0, 0, -1), BAD);
        due("what 3, rank 12", x.witness(0, 12, 3), BAD);
        due("law 1", x.witness(1, 0, 0), UNKNOWN);
        due("law 1, rank -1", x.witness(1, -1, 3), UNKNOWN);
        for (int off : OFF_INTS) {
            due("law off", x.witness(off, 0, 0), UNKNOWN);
            due("what off", x.witness(0, 0, off), BAD);
        }
        x = with(2, 0, RIGHT + ";" + LEFT);
        due("two things", x.witness(1, 0, 0) * 100 + x.witness(1, 0, 1), 210);
        x.turnLaw(1, false);
        due("off, two things", x.witness(1, 0, 0) * 100 + x.witness(1, 0, 1), 210);
        due("off, cases", x.witness(1, 0, 2), 4);
        due("off, three things", x.witness(1, 1, 0), 3);
        due("off, three things", x.witness(1, 1, 1), code(3, 0, 1, 2, 0, 1, 2, 0, 1, 2));
        due("off, cases", x.witness(1, 1, 2), 18);
        due("off, rank 2", x.witness(1, 2, 1), NONE);
        x = with(2, 0, "x=x");
        due("none", x.witness(0, 0, 0), NONE);
        // The fewest of the two things' cases are 1 of 8; of three things' there may be 1 of 27.
        x = with(2, 0, "xyz=x(yz)");
        due("size", x.witness(0, 0, 0), 3);
        due("cases", x.witness(0, 0, 2), 1);
    }

    private static void model() {
        promise = "21";
        LawWorlds x = new LawWorlds();
        int[] two = {0, 1, 2, 3, 4, 5, 6, 8, 10, 12};
        int[] plain = new int[16];
        int plains = 0;
        for (int code = 0; code < 16; code++) {
            if (at(2, code).world(2) == code) {
                plain[plains] = code;
                plains++;
            }
        }
        due("plain codes of two things", plains, two.length);
        for (int rank = 0; rank < 10; rank++) {
            due("plain code of rank " + rank, plain[rank], two[rank]);
            due("model(2, " + rank + ")", x.model(2, rank), two[rank]);
        }
        due("model(2, 10)", x.model(2, 10), NONE);
        due("model(1, 0)", x.model(1, 0), 0);
        due("model(1, 1)", x.model(1, 1), NONE);
        due("model(3, 0)", x.model(3, 0), 0);
        due("model(3, 3329)", x.model(3, 3329), 19305);
        due("model(3, 3330)", x.model(3, 3330), NONE);
        due("model(3, most)", x.model(3, Integer.MAX_VALUE), NONE);
        due("model(3, -1)", x.model(3, -1), BAD);
        due("model(0, 0)", x.model(0, 0), BAD);
        due("model(4, 0)", x.model(4, 0), BAD);
        for (int off : OFF_INTS) {
            due("model(off, 0)", x.model(off, 0), BAD);
        }
        x = with(2, 0, RIGHT);
        due("model(2, 0)", x.model(2, 0), 10);
        due("model(2, 1)", x.model(2, 1), NONE);
        due("model(3, 0)", x.model(3, 0), code(3, 0, 1, 2, 0, 1, 2, 0, 1, 2));
        due("model(1, 0)", x.model(1, 0), 0);
        x.turnLaw(0, false);
        due("model(2, 1)", x.model(2, 1), 1);
    }

    private static void models() {
        promise = "22";
        LawWorlds x = new LawWorlds();
        int[] plain = {1, 10, 3330};
        int[] all = {1, 16, 19683};
        for (int size = 1; size <= 3; size++) {
            due("models(" + size + ", false)", x.models(size, false), plain[size - 1]);
            due("models(" + size + ", true)", x.models(size, true), all[size - 1]);
        }
        due("models(0, true)", x.models(0, true), BAD);
        due("models(4, false)", x.models(4, false), BAD);
        for (int off : OFF_INTS) {
            due("models(off, true)", x.models(off, true), BAD);
        }
        // The numbers of half-groups and of their kinds are known.
        x = with(2, 0, ASSOCIATIVE);
        modelNumbers(x, "associative", 5, 8, 24, 113);
        add(x, COMMUTATIVE);
        modelNumbers(x, "commutative too", 3, 6, 12, 63);
        add(x, IDEMPOTENT);
        modelNumbers(x, "idempotent too", 1, 2, 2, 9);
        x.turnLaw(1, false);
        modelNumbers(x, "bands", 3, 4, 10, 35);
        x.turnLaw(0, false);
        x.turnLaw(1, true);
        x.turnLaw(2, false);
        modelNumbers(x, "commutative alone", 4, 8, 129, 729);
        add(x, "x=y");
        modelNumbers(x, "one thing only", 0, 0, 0, 0);
        due("models(1, true)", x.models(1, true), 1);
    }

    private static void modelNumbers(LawWorlds x, String kind, int two, int allTwo, int three, int allThree) {
        due(kind + ", two", x.models(2, false), two);
        due(kind + ", all of two", x.models(2, true), allTwo);
        due(kind + ", three", x.models(3, false), three);
        due(kind + ", all of three", x.models(3, true), allThree);
    }

    private static void paired() {
        promise = "23";
        LawWorlds x = with(2, 12, LEFT + ";x=y");
        due("left with left", x.paired(2, 12, 0), 0);
        due("left with zeros of three", x.paired(3, 0, 0), 144);
        due("left with zeros of two", x.paired(2, 0, 0), 32);
        due("left with one", x.paired(1, 0, 0), 0);
        due("x=y", x.paired(2, 12, 1), 48);
        due("x=y", x.paired(3, 77, 1), 180);
        x.take(3, 0);
        due("zeros with zeros", x.paired(3, 0, 0), 729 - 81);
        due("x=y of nine things", x.paired(3, 5, 1), 648);
        x.take(1, 0);
        due("one with one", x.paired(1, 0, 1), 0);
        due("law 2", x.paired(2, 12, 2), UNKNOWN);
        due("law -1", x.paired(2, 12, -1), UNKNOWN);
        due("code 16", x.paired(2, 16, 0), BAD);
        due("code 16, law 2", x.paired(2, 16, 2), BAD);
        due("size 4, law 2", x.paired(4, 0, 2), BAD);
        for (int off : OFF_INTS) {
            due("size off", x.paired(off, 0, 0), BAD);
            due("code off", x.paired(2, off, 0), BAD);
            due("law off", x.paired(2, 0, off), UNKNOWN);
        }
    }

    private static void alike() {
        promise = "24";
        LawWorlds x = new LawWorlds();
        due("alike(2, 6, 9)", x.alike(2, 6, 9), 1);
        due("alike(2, 8, 14)", x.alike(2, 8, 14), 1);
        due("alike(2, 14, 14)", x.alike(2, 14, 14), 1);
        due("alike(2, 10, 12)", x.alike(2, 10, 12), 0);
        due("alike(1, 0, 0)", x.alike(1, 0, 0), 1);
        int addition = code(3, 0, 1, 2, 1, 2, 0, 2, 0, 1);
        due("addition about 0 and about 1", x.alike(3, addition, code(3, 2, 0, 1, 0, 1, 2, 1, 2, 0)), 1);
        due("addition about 0 and about 2", x.alike(3, addition, code(3, 1, 2, 0, 2, 0, 1, 0, 1, 2)), 1);
        due("turned both ways", x.alike(3, code(3, 1, 1, 1, 2, 2, 2, 0, 0, 0), code(3, 2, 2, 2, 0, 0, 0, 1, 1, 1)), 1);
        due("alike(3, 2, 9922)", x.alike(3, 2, 9922), 1);
        due("alike(3, 2, 162)", x.alike(3, 2, 162), 0);
        due("alike(3, 0, 19682)", x.alike(3, 0, 19682), 1);
        due("alike(3, 0, 19683)", x.alike(3, 0, 19683), BAD);
        due("alike(2, 16, 0)", x.alike(2, 16, 0), BAD);
        due("alike(1, 0, 1)", x.alike(1, 0, 1), BAD);
        due("alike(0, 0, 0)", x.alike(0, 0, 0), BAD);
        due("alike(4, 0, 0)", x.alike(4, 0, 0), BAD);
        for (int off : OFF_INTS) {
            due("alike(off, 0, 0)", x.alike(off, 0, 0), BAD);
            due("alike(2, off, 0)", x.alike(2, off, 0), BAD);
            due("alike(2, 0, off)", x.alike(2, 0, off), BAD);
        }
    }

    private static void count() {
        promise = "25";
        LawWorlds x = with(2, 6, "xy=yx;x=y;x=x;xy=yx");
        x.turnLaw(1, false);
        x.turnLaw(2, false);
        due("count(0)", x.count(0), 4);
        due("count(1)", x.count(1), 2);
        due("count(2)", x.count(2), 3);
        due("count(3)", x.count(3), 3);
        due("count(4)", x.count(4), 4);
        due("count(5)", x.count(5), 19);
        x.turnLaw(3, false);
        due("count(3) with the copy off", x.count(3), 2);
        x.take(2, 2);
        due("count(2) elsewhere", x.count(2), 1);
        x.turnLaw(1, true);
        due("count(3) with x=y on", x.count(3), 3);
        due("count(4)", x.count(4), 4);
        due("count(6)", x.count(6), BAD);
        due("count(-1)", x.count(-1), BAD);
        for (int off : OFF_INTS) {
            due("count(off)", x.count(off), BAD);
        }
    }
}
