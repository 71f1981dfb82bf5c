import java.io.IOException;
import java.nio.charset.StandardCharsets;
import java.nio.file.Files;
import java.nio.file.Path;
import java.util.ArrayList;
import java.util.List;

// Each argument of each call: its first and its last value, all between, and the first ones outside; and what the
// document names behind "Returns". A test begins with the words that it holds the class to.
public final class LawWorldsRanges {
    private static final String DOCUMENT = "../shared/DOC.md";
    private static final int UNKNOWN = -1;
    private static final int BAD = -2;
    private static final int FULL = -3;
    private static final int NONE = -5;
    private static final int[] CODES = {0, 1, 16, 19683};
    private static final String FIVE = "x=y;xx=x;xy=yx;x=x;xyz=x(yz)";

    private static String document = "";
    private static String promise = "";
    private static int wrong = 0;

    private interface Call {
        int on(LawWorlds x, int value);
    }

    private interface Made {
        LawWorlds one();
    }

    private static void fail(String words) {
        wrong++;
        System.out.println(promise + ": " + words);
    }

    /** The heading and all the words have to stand in one promise of the document. */
    private static void promise(String heading, String... words) {
        promise = heading;
        int start = document.indexOf("## Promise " + heading + "\n");
        int end = document.indexOf("\n## ", start + 1);
        String text = start < 0 || end < 0 ? "" : document.substring(start, end);
        for (String one : words) {
            if (!text.contains(one)) {
                fail("the document does not say: " + one);
            }
        }
    }

    private static void due(String call, int got, int want) {
        if (got != want) {
            fail(call + " answered " + got + ", due is " + want);
        }
    }

    private static boolean isError(int answer) {
        return answer < 0 && answer != NONE;
    }

    /** Of a long range the beginning and the last two values are tried, of a short one all. */
    private static int next(int value, int first, int last) {
        return Math.max(value + 1, value < first + 200 ? 0 : last - 1);
    }

    /** All values from the first to the last are no error, all others are this error; each on an object of its own. */
    private static void range(String argument, Made made, int first, int last, int error, Call call) {
        for (int value = first; value <= last; value = next(value, first, last)) {
            int answer = call.on(made.one(), value);
            if (isError(answer)) {
                fail(argument + " of " + value + " answered " + answer);
            }
        }
        int[] outside = {
            first - 1, first - 2, first - 1000, Integer.MIN_VALUE, last + 1, last + 2, last + 1000, last + 65536,
            Integer.MAX_VALUE,
        };
        for (int value : outside) {
            due(argument + " of " + value, call.on(made.one(), value), error);
        }
    }

    public static void main(String[] args) throws IOException {
        document = Files.readString(Path.of(DOCUMENT), StandardCharsets.UTF_8);
        newObject();
        take();
        put();
        rename();
        mirror();
        addLaws();
        removeLaw();
        turnLaw();
        refute();
        type();
        clearText();
        undo();
        keep();
        restore();
        of();
        world();
        closed();
        law();
        side();
        witness();
        model();
        models();
        paired();
        alike();
        count();
        System.out.println(wrong == 0 ? "all ranges hold" : wrong + " answers are not as due");
        if (wrong != 0) {
            System.exit(1);
        }
    }

    // ---- helpers

    private static LawWorlds at(int size, int code) {
        LawWorlds x = new LawWorlds();
        x.take(size, code);
        return x;
    }

    private static void write(LawWorlds x, String text) {
        x.clearText();
        for (int i = 0; i < text.length(); i++) {
            x.type(text.charAt(i));
        }
    }

    private static int add(LawWorlds x, String text) {
        write(x, text);
        return x.addLaws();
    }

    private static LawWorlds with(int size, int code, String text) {
        LawWorlds x = at(size, code);
        if (add(x, text) < 0) {
            fail("no laws are " + text);
        }
        return x;
    }

    /** Objects that have one to five laws, in turn; the last law is one that is broken in some world. */
    private static LawWorlds lawful(int laws) {
        String[] texts = {"x=y", "x=x;x=y", "x=x;xx=x;x=y", "x=x;xx=x;y=y;x=y", "x=x;xx=x;y=y;z=z;x=y"};
        return laws == 0 ? new LawWorlds() : with(2, 0, texts[laws - 1]);
    }

    private static int code(int size, int... table) {
        int code = 0;
        for (int i = table.length - 1; i >= 0; i--) {
            code = code * size + table[i];
        }
        return code;
    }

    // ---- the promises

    private static void newObject() {
        promise("1: A new object", "Creates a world of two things, and no laws.");
        LawWorlds x = new LawWorlds();
        due("world(0)", x.world(0), 2);
        due("world(1)", x.world(1), 0);
        for (int what = 0; what <= 5; what++) {
            due("count(" + what + ")", x.count(what), 0);
        }
        for (int what = 0; what <= 6; what++) {
            due("law(0, " + what + ")", x.law(0, what), UNKNOWN);
        }
        // Nothing of one object is another one's.
        x.take(3, 19682);
        add(x, FIVE);
        x.keep();
        LawWorlds other = new LawWorlds();
        for (int what = 0; what <= 5; what++) {
            due("count(" + what + ") of another one", other.count(what), 0);
        }
        due("world(0) of another one", other.world(0), 2);
        due("restore() of another one", other.restore(), NONE);
        due("undo() of another one", other.undo(), NONE);
    }

    private static void take() {
        promise("2: take", "`size`: 1 to 3", "`code`: a code of this size",
            "Returns the previous code; BAD_VALUE; NONE if it is this world already.");
        range("size", LawWorlds::new, 1, 3, BAD, (x, size) -> x.take(size, 0));
        for (int size = 1; size <= 3; size++) {
            int n = size;
            range("code", LawWorlds::new, 0, CODES[size] - 1, BAD, (x, code) -> x.take(n, code));
            for (int code = 0; code < CODES[size]; code += 1 + code / 3) {
                LawWorlds x = at(size == 3 ? 2 : 3, 7);
                due("the previous code", x.take(size, code), 7);
                due("this world already", x.take(size, code), NONE);
                due("size", x.world(0), size);
                due("code", x.world(1), code);
            }
        }
        due("the same code of another size is another world", at(2, 5).take(3, 5), 5);
        due("the same code 0 of the least size", new LawWorlds().take(1, 0), 0);
    }

    private static void put() {
        promise("3: put", "Returns the code then; UNKNOWN (a, b or value); NONE if it is so already.");
        for (int size = 1; size <= 3; size++) {
            int n = size;
            range("a", () -> at(n, 0), 0, size - 1, UNKNOWN, (x, a) -> x.put(a, 0, n - 1));
            range("b", () -> at(n, 0), 0, size - 1, UNKNOWN, (x, b) -> x.put(0, b, n - 1));
            range("value", () -> at(n, 0), 0, size - 1, UNKNOWN, (x, value) -> x.put(0, n - 1, value));
            // Up from 0 to the greatest code, place by place, and down to 0 again.
            LawWorlds x = at(size, 0);
            int weight = 1;
            int code = 0;
            for (int place = 0; place < size * size; place++) {
                due("so already, " + place, x.put(place / size, place % size, 0), NONE);
                for (int value = 1; value < size; value++) {
                    code += weight;
                    due("put, " + place, x.put(place / size, place % size, value), code);
                    due("so already, " + place, x.put(place / size, place % size, value), NONE);
                }
                weight *= size;
            }
            due("the greatest code", x.world(1), CODES[size] - 1);
            for (int place = size * size - 1; place >= 0 && size > 1; place--) {
                weight /= size;
                code -= (size - 1) * weight;
                due("put 0, " + place, x.put(place / size, place % size, 0), code);
            }
            due("the least code", x.world(1), 0);
        }
    }

    private static void rename() {
        promise("4: rename", "`a`: a thing", "`b`: another thing",
            "Returns the code then; UNKNOWN (a or b); BAD_VALUE if both are the same; NONE if the world is the same then.");
        for (int size = 1; size <= 3; size++) {
            for (int a = -1; a <= 4; a++) {
                for (int b = -1; b <= 4; b++) {
                    boolean areThings = a >= 0 && a < size && b >= 0 && b < size;
                    // Of a and a comes the next thing, so that each exchange makes another world, but for one thing.
                    LawWorlds x = at(size, size == 3 ? code(3, 1, 0, 0, 0, 2, 0, 0, 0, 0) : size == 2 ? 1 : 0);
                    int before = x.world(1);
                    int answer = x.rename(a, b);
                    String call = "rename(" + a + ", " + b + ") of " + size;
                    if (!areThings) {
                        due(call, answer, UNKNOWN);
                    } else if (a == b) {
                        due(call, answer, BAD);
                    } else {
                        due(call, answer, x.world(1));
                        due(call + " is another world, 1", answer != before ? 1 : 0, 1);
                    }
                }
            }
            int[] far = {Integer.MIN_VALUE, -1000, 1000, 65536, Integer.MAX_VALUE};
            for (int thing : far) {
                due("rename of a, " + thing, at(size, 0).rename(thing, 0), UNKNOWN);
                due("rename of b, " + thing, at(size, 0).rename(0, thing), UNKNOWN);
                due("rename of both, " + thing, at(size, 0).rename(thing, thing), UNKNOWN);
            }
        }
        int[][] table = {{0, 1, 2}, {2, 1, 0}, {1, 1, 2}};
        int now = code(3, 0, 1, 2, 2, 1, 0, 1, 1, 2);
        for (int a = 0; a < 3; a++) {
            for (int b = 0; b < 3; b++) {
                if (a == b) {
                    continue;
                }
                LawWorlds x = at(3, now);
                x.rename(a, b);
                int[] names = {0, 1, 2};
                names[a] = b;
                names[b] = a;
                for (int place = 0; place < 9; place++) {
                    due("of renamed things", x.of(names[place / 3], names[place % 3]), names[table[place / 3][place % 3]]);
                }
                due("and back again", x.rename(b, a), now);
            }
        }
        for (int code = 0; code < 16; code++) {
            boolean same = code == 3 || code == 5 || code == 10 || code == 12;
            LawWorlds x = at(2, code);
            due("the same world then: " + code, x.rename(0, 1) == NONE ? 1 : 0, same ? 1 : 0);
            due("rename(1, 0) of " + code, at(2, code).rename(1, 0), same ? NONE : x.world(1));
        }
        due("three things, the same then", at(3, 0).rename(1, 2), NONE);
        due("three things, not the same then", at(3, 0).rename(0, 2), 19682);
    }

    private static void mirror() {
        promise("5: mirror", "what comes of a and b is then what came of b and a",
            "Returns the code then; NONE if the world is the same then.");
        for (int code = 0; code < 16; code++) {
            int turned = (code & 9) + ((code & 2) << 1) + ((code & 4) >> 1);
            due("mirror() of " + code, at(2, code).mirror(), turned == code ? NONE : turned);
        }
        due("of one thing", at(1, 0).mirror(), NONE);
        for (int code = 0; code < CODES[3]; code += 757) {
            LawWorlds x = at(3, code);
            LawWorlds y = at(3, code);
            int answer = y.mirror();
            for (int place = 0; place < 9; place++) {
                due("mirrored " + code, y.of(place / 3, place % 3), x.of(place % 3, place / 3));
            }
            due("mirror() of " + code, answer, y.world(1) == code ? NONE : y.world(1));
            due("back again", y.mirror(), answer == NONE ? NONE : code);
        }
    }

    private static void addLaws() {
        promise("6: addLaws", "Adds the laws of the text, which stays; all of them, or none. This is one act.",
            "Returns how many the text has; -100 minus the fault of the text if it has one (which is an error); "
                + "FULL if there would be more than 5.");
        String[] texts = {"x=y", "x=y;x=z", "x=y;x=z;y=z", "x=y;x=z;y=z;x=x", "x=y;x=z;y=z;x=x;y=y", "x=y;x=z;y=z;x=x;y=y;z=z"};
        for (int there = 0; there <= 5; there++) {
            for (int more = 1; more <= 6; more++) {
                LawWorlds x = lawful(there);
                int states = x.count(4);
                write(x, texts[more - 1]);
                boolean hasRoom = there + more <= 5;
                due(more + " to " + there, x.addLaws(), hasRoom ? more : FULL);
                due("laws then", x.count(0), hasRoom ? there + more : there);
                due("states then", x.count(4), hasRoom ? states + 1 : states);
                due("the text stays", x.count(5), texts[more - 1].length());
                if (hasRoom) {
                    due("undo()", x.undo(), states);
                    due("all are gone", x.count(0), there);
                }
            }
        }
        LawWorlds x = new LawWorlds();
        due("the least fault", x.addLaws(), -100);
        String full = "xyzxyzxy=xyzxyzxy;xyzxyzxy=xyzxyzxy;xyzxyzxy=xyzxyzxy;xyz=z";
        due("the last character is a fault", add(x, full + "?"), -159);
        due("the greatest fault", add(x, full + ";"), -160);
        due("one character more is not typed", x.type('x'), FULL);
        due("laws", x.count(0), 0);
        due("states", x.count(4), 0);
    }

    private static void removeLaw() {
        promise("7: removeLaw", "those behind it have numbers that are 1 less then", "Returns how many there are then; UNKNOWN.");
        for (int laws = 0; laws <= 5; laws++) {
            int n = laws;
            range("law", () -> lawful(n), 0, laws - 1, UNKNOWN, LawWorlds::removeLaw);
        }
        int[] sets = {3, 1, 7, 5, 6};
        for (int removed = 0; removed < 5; removed++) {
            LawWorlds x = with(2, 0, "x=y;xx=x;xy=z;xz=z;z=y");
            x.turnLaw(3, false);
            due("removeLaw(" + removed + ")", x.removeLaw(removed), 4);
            for (int law = 0; law < 4; law++) {
                int was = law < removed ? law : law + 1;
                due("law " + law + " behind " + removed, x.law(law, 3), sets[was]);
                due("law " + law + " on", x.law(law, 0), was == 3 ? 0 : 1);
            }
            due("law 4", x.law(4, 3), UNKNOWN);
        }
        LawWorlds x = with(2, 0, FIVE);
        for (int left = 4; left >= 0; left--) {
            due("the last one", x.removeLaw(left), left);
        }
        due("none is left", x.removeLaw(0), UNKNOWN);
        due("all models again", x.models(3, false), 3330);
    }

    private static void turnLaw() {
        promise("8: turnLaw", "Returns how many laws are on then; UNKNOWN; NONE if it is so already.");
        for (int laws = 0; laws <= 5; laws++) {
            int n = laws;
            range("law, off", () -> lawful(n), 0, laws - 1, UNKNOWN, (x, law) -> x.turnLaw(law, false));
            range("law, on", () -> lawful(n), 0, laws - 1, UNKNOWN, (x, law) -> x.turnLaw(law, true));
        }
        LawWorlds x = with(2, 0, FIVE);
        for (int law = 0; law < 5; law++) {
            due("on already", x.turnLaw(law, true), NONE);
            due("turned off", x.turnLaw(law, false), 4 - law);
            due("off already", x.turnLaw(law, false), NONE);
        }
        for (int law = 4; law >= 0; law--) {
            due("turned on", x.turnLaw(law, true), 5 - law);
            due("on already", x.turnLaw(law, true), NONE);
            due("law(" + law + ", 0)", x.law(law, 0), 1);
        }
    }

    private static void refute() {
        promise("9: refute", "the first witness against a law. This is an act, also if it is that world already.",
            "Returns its code; UNKNOWN; NONE if there is none.");
        for (int laws = 0; laws <= 5; laws++) {
            int n = laws;
            range("law", () -> lawful(n), 0, laws - 1, UNKNOWN, LawWorlds::refute);
        }
        LawWorlds x = with(1, 0, "x=x;x(yy)=xy;x(xy)=yx");
        due("none", x.refute(0), NONE);
        due("size", x.world(0), 1);
        due("one alone", x.refute(1), 2511);
        due("size", x.world(0), 3);
        due("broken", x.law(1, 1), 3);
        int states = x.count(4);
        due("that world already", x.refute(1), 2511);
        due("states", x.count(4), states + 1);
        x.turnLaw(1, false);
        due("whether it is on or off", x.refute(1), 2511);
        x.take(2, 7);
        due("the first of many", x.refute(2), x.witness(2, 0, 1));
        due("its size", x.world(0), x.witness(2, 0, 0));
        due("its cases", x.law(2, 1), x.witness(2, 0, 2));
        x = with(3, 5, "xy=y");
        due("of the size 2, with the code 4", x.refute(0), x.witness(0, 0, 1));
        x.take(3, x.world(1));
        due("the same code of another size is another world", x.refute(0), x.witness(0, 0, 1));
        due("size", x.world(0), 2);
        x = with(3, 5, "x=y");
        due("the code 0", x.refute(0), 0);
        due("size", x.world(0), 2);
    }

    private static void type() {
        promise("10: type", "`character`: any character", "Returns the length of the text then; FULL if it has 60 characters.");
        int[] characters = {0, 1, 31, 32, 127, 128, 255, 256, 0x7fff, 0x8000, 0xd800, 0xdfff, 0xfffe, 0xffff, 'x', '('};
        LawWorlds x = new LawWorlds();
        for (int character : characters) {
            due("clearText()", x.clearText(), character == 0 ? 0 : 1);
            due("type of " + character, x.type((char) character), 1);
            due("count(5)", x.count(5), 1);
        }
        x = new LawWorlds();
        for (int length = 1; length <= 59; length++) {
            x.type('y');
        }
        due("count(5)", x.count(5), 59);
        due("the last one", x.type('y'), 60);
        for (int character : characters) {
            due("the first one outside", x.type((char) character), FULL);
        }
        due("count(5)", x.count(5), 60);
        x.clearText();
        due("after clearText()", x.type('y'), 1);
    }

    private static void clearText() {
        promise("11: clearText", "Empties the text.", "Returns the length that it had.");
        for (int length = 0; length <= 61; length++) {
            LawWorlds x = new LawWorlds();
            for (int i = 0; i < length; i++) {
                x.type('x');
            }
            due("clearText()", x.clearText(), Math.min(length, 60));
            due("count(5)", x.count(5), 0);
            due("clearText() of the empty one", x.clearText(), 0);
            due("addLaws()", x.addLaws(), -100);
            due("type", x.type('x'), 1);
            due("only what is typed then is there", x.addLaws(), -101);
        }
    }

    private static void undo() {
        promise("12: undo", "Returns the number of states that are left; NONE if the history is empty.");
        for (int acts = 0; acts <= 6; acts++) {
            LawWorlds x = new LawWorlds();
            for (int act = 0; act < acts; act++) {
                x.take(3, act + 1);
            }
            for (int left = Math.min(acts, 4) - 1; left >= 0; left--) {
                due("undo() after " + acts, x.undo(), left);
                due("count(4)", x.count(4), left);
            }
            due("undo() of the empty history", x.undo(), NONE);
            due("and again", x.undo(), NONE);
            due("count(4)", x.count(4), 0);
            due("code", x.world(1), Math.max(acts - 4, 0));
        }
    }

    private static void keep() {
        promise("13: keep", "Takes a snapshot of the state, in place of the one that was.", "Returns how many laws there are.");
        for (int laws = 0; laws <= 5; laws++) {
            LawWorlds x = lawful(laws);
            due("keep()", x.keep(), laws);
            due("keep() in its place", x.keep(), laws);
            x.take(3, 19682);
            due("keep() in its place", x.keep(), laws);
            x.take(1, 0);
            due("restore()", x.restore(), laws);
            due("code", x.world(1), 19682);
        }
    }

    private static void restore() {
        promise("14: restore", "Restores the state of the snapshot, which stays. This is an act.",
            "Returns how many laws there are then; NONE if there is no snapshot.");
        for (int laws = 0; laws <= 5; laws++) {
            LawWorlds x = lawful(laws);
            due("no snapshot", x.restore(), NONE);
            x.keep();
            int states = x.count(4);
            due("the same state", x.restore(), laws);
            due("is an act", x.count(4), states + 1);
            while (x.count(0) > 0) {
                x.removeLaw(0);
            }
            x.take(1, 0);
            for (int round = 0; round < 6; round++) {
                due("restore()", x.restore(), laws);
                due("laws", x.count(0), laws);
                due("laws on", x.count(1), laws);
                due("size", x.world(0), 2);
                x.take(3, round);
            }
            due("states", x.count(4), 4);
            due("undo()", x.undo(), 3);
            due("size", x.world(0), 2);
            due("undo()", x.undo(), 2);
            due("size", x.world(0), 3);
        }
    }

    private static void of() {
        promise("15: of", "Returns what comes of them in the world of now; UNKNOWN.");
        for (int size = 1; size <= 3; size++) {
            int n = size;
            for (int b = 0; b < size; b++) {
                int other = b;
                range("a", () -> at(n, CODES[n] - 1), 0, size - 1, UNKNOWN, (x, a) -> x.of(a, other));
                range("b", () -> at(n, CODES[n] - 1), 0, size - 1, UNKNOWN, (x, a) -> x.of(other, a));
            }
            due("the last of both", at(size, CODES[size] - 1).of(size - 1, size - 1), size - 1);
            due("of a world of 0 alone", at(size, 0).of(size - 1, size - 1), 0);
        }
        LawWorlds x = at(3, code(3, 0, 1, 2, 2, 0, 1, 1, 2, 0));
        due("of(0, 2)", x.of(0, 2), 2);
        due("of(2, 0)", x.of(2, 0), 1);
        due("of(1, 2)", x.of(1, 2), 1);
        due("of(2, 1)", x.of(2, 1), 2);
    }

    private static void worldIs(int size, int code, int... answers) {
        LawWorlds x = at(size, code);
        for (int what = 0; what < answers.length; what++) {
            due("world(" + what + ") of " + size + ", " + code, x.world(what), answers[what]);
        }
    }

    private static void world() {
        promise("16: world", "0 for the size, 1 for the code, 2 for the plain code, 3 for how many worlds are alike to it (with itself)",
            "4 for the things that stay by themselves (a set, as bits: of a and a comes a)",
            "5 for the things that leave all from the left (of a and b comes b, whatever b is; a set)",
            "6 for those that leave all from the right (of b and a comes b; a set)",
            "7 for whether all laws that are on hold (1, otherwise 0)", "Returns the number, of the world of now; BAD_VALUE.");
        range("what", LawWorlds::new, 0, 7, BAD, LawWorlds::world);
        range("what", () -> with(3, 19682, FIVE), 0, 7, BAD, LawWorlds::world);
        // The least and the greatest answers: none of the things, all of them.
        worldIs(1, 0, 1, 0, 0, 1, 1, 1, 1, 1);
        worldIs(2, 0, 2, 0, 0, 2, 1, 0, 0, 1);
        worldIs(2, 15, 2, 15, 0, 2, 2, 0, 0, 1);
        worldIs(2, code(2, 0, 1, 0, 1), 2, 10, 10, 1, 3, 3, 0, 1);
        worldIs(2, code(2, 0, 0, 1, 1), 2, 12, 12, 1, 3, 0, 3, 1);
        worldIs(2, code(2, 1, 1, 0, 0), 2, 3, 3, 1, 0, 0, 0, 1);
        worldIs(2, code(2, 1, 0, 0, 1), 2, 9, 6, 2, 2, 2, 2, 1);
        worldIs(3, 0, 3, 0, 0, 3, 1, 0, 0, 1);
        worldIs(3, 19682, 3, 19682, 0, 3, 4, 0, 0, 1);
        worldIs(3, code(3, 0, 1, 2, 0, 1, 2, 0, 1, 2), 3, 15897, 15897, 1, 7, 7, 0, 1);
        worldIs(3, code(3, 0, 0, 0, 1, 1, 1, 2, 2, 2), 3, 19305, 19305, 1, 7, 0, 7, 1);
        worldIs(3, code(3, 1, 1, 1, 2, 2, 2, 0, 0, 0), 3, 715, 715, 2, 0, 0, 0, 1);
        LawWorlds x = with(2, 0, "x=x;xy=x");
        due("one law is broken", x.world(7), 0);
        x.turnLaw(1, false);
        due("it is off", x.world(7), 1);
        x.turnLaw(1, true);
        x.take(2, 12);
        due("it holds", x.world(7), 1);
        x.take(3, 12);
        due("it does not hold", x.world(7), 0);
    }

    private static void closed() {
        promise("17: closed", "the least set of things that has them, and what comes of any two of its things.",
            "`set`: a set of things, as bits", "Returns the set; BAD_VALUE.");
        for (int size = 1; size <= 3; size++) {
            int n = size;
            range("set", () -> at(n, 0), 0, (1 << size) - 1, BAD, LawWorlds::closed);
            range("set", () -> at(n, CODES[n] - 1), 0, (1 << size) - 1, BAD, LawWorlds::closed);
            for (int code = 0; code < CODES[size]; code += size == 3 ? 331 : 1) {
                LawWorlds x = at(size, code);
                due("the empty set", x.closed(0), 0);
                due("the set of all", x.closed((1 << size) - 1), (1 << size) - 1);
                for (int set = 0; set < 1 << size; set++) {
                    int closed = x.closed(set);
                    due("has the set " + set, closed & set, set);
                    due("is closed, " + code, x.closed(closed), closed);
                }
            }
        }
        // One after another: of 0 and 0 comes 1, of 1 and 1 comes 2, or of two that come of one.
        due("one after another", at(3, code(3, 1, 0, 0, 0, 2, 0, 0, 0, 2)).closed(1), 7);
        due("from the greatest on", at(3, code(3, 0, 0, 0, 0, 0, 0, 0, 0, 1)).closed(4), 7);
        due("of two of them", at(3, code(3, 0, 0, 2, 0, 0, 1, 2, 1, 2)).closed(5), 5);
        due("of two of them", at(3, code(3, 0, 0, 2, 0, 0, 0, 1, 1, 2)).closed(5), 7);
    }

    private static void law() {
        promise("18: law", "0 for whether it is on (1, otherwise 0), 1 for in how many cases it is broken in the world of now",
            "2 for the letters of both sides together (how many, each as often as it stands there)",
            "3 for the letters that it has (a set: 1 for x, 2 for y, 4 for z), 4 for whether it follows (1, otherwise 0)",
            "5 for how many witnesses against it are told (12 if there are so many or more)",
            "6 for the first case in which it is broken in the world of now (NONE without any)",
            "Returns the number; UNKNOWN; BAD_VALUE.");
        for (int laws = 0; laws <= 5; laws++) {
            int n = laws;
            for (int what = 0; what <= 6; what++) {
                int asked = what;
                range("law", () -> lawful(n), 0, laws - 1, UNKNOWN, (x, law) -> x.law(law, asked));
            }
            for (int law = 0; law < laws; law++) {
                int asked = law;
                range("what", () -> lawful(n), 0, 6, BAD, (x, what) -> x.law(asked, what));
            }
        }
        LawWorlds x = with(3, 0, "x=x;y=x;z=yz;xyzxyzxy=zyxzyxzy;yyyyyyyy=y");
        int[] letters = {2, 2, 3, 16, 9};
        int[] sets = {1, 3, 6, 7, 2};
        int[] broken = {0, 18, 18, 0, 18};
        int[] first = {NONE, 1, 9, NONE, 3};
        for (int law = 0; law < 5; law++) {
            due("law(" + law + ", 1)", x.law(law, 1), broken[law]);
            due("law(" + law + ", 2)", x.law(law, 2), letters[law]);
            due("law(" + law + ", 3)", x.law(law, 3), sets[law]);
            due("law(" + law + ", 6)", x.law(law, 6), first[law]);
        }
        x = with(3, code(3, 1, 2, 0, 2, 0, 1, 0, 1, 2), "xx=x");
        due("broken in all cases but some", x.law(0, 1), 18);
        x = with(3, code(3, 1, 0, 0, 0, 2, 0, 0, 0, 0), "xx=x");
        due("broken in all cases", x.law(0, 1), 27);
        due("from the first one on", x.law(0, 6), 0);
        // Broken in the last case alone, in which all three letters stand for the last thing.
        x = with(2, 2, "xy=zxy;z=z");
        due("one of 8 cases", x.law(0, 1), 1);
        due("the last one", x.law(0, 6), 7);
        x.take(3, code(3, 0, 0, 2, 0, 0, 2, 0, 0, 0));
        due("one of 27 cases", x.law(0, 1), 1);
        due("the last one", x.law(0, 6), 26);
        due("no case", x.law(1, 6), NONE);
    }

    private static void side() {
        promise("19: side", "`right`: whether it is the right side, otherwise the left one", "`number`: a case",
            "Returns the thing; UNKNOWN (law); BAD_VALUE.");
        for (int laws = 0; laws <= 5; laws++) {
            int n = laws;
            range("law, left", () -> lawful(n), 0, laws - 1, UNKNOWN, (x, law) -> x.side(law, false, 7));
            range("law, right", () -> lawful(n), 0, laws - 1, UNKNOWN, (x, law) -> x.side(law, true, 0));
        }
        for (int size = 1; size <= 3; size++) {
            int n = size;
            int cases = size * size * size;
            range("number, left", () -> with(n, CODES[n] - 1, "x=xy"), 0, cases - 1, BAD, (x, number) -> x.side(0, false, number));
            range("number, right", () -> with(n, CODES[n] - 1, "x=xy"), 0, cases - 1, BAD, (x, number) -> x.side(0, true, number));
            LawWorlds x = with(size, CODES[size] - 1, "x=xy");
            for (int number = 0; number < cases; number++) {
                due("left", x.side(0, false, number), number % size);
                due("right", x.side(0, true, number), size - 1);
            }
        }
    }

    private static void witness() {
        promise("20: witness", "`rank`: a rank, from 0", "0 for the size, 1 for the code, 2 for how many cases are broken",
            "Returns the number; UNKNOWN; BAD_VALUE (rank is negative, or what); NONE if not so many are told.");
        for (int laws = 0; laws <= 5; laws++) {
            int n = laws;
            range("law", () -> lawful(n), 0, laws - 1, UNKNOWN, (x, law) -> x.witness(law, 0, 0));
        }
        range("what", () -> lawful(1), 0, 2, BAD, (x, what) -> x.witness(0, 0, what));
        range("what, of none", () -> lawful(1), 0, 2, BAD, (x, what) -> x.witness(0, 12, what));
        String[] laws = {"x=x", "x(yy)=xy;x(xy)=yx", "xx=y;xy=xx", "xx=x;x(yz)=xz", "xy=y;x(xy)=yy", "xx=x;x(yz)=xy", "x=y"};
        int[] told = {0, 1, 10, 11, 12, 12, 12};
        for (int i = 0; i < laws.length; i++) {
            LawWorlds x = with(2, 3, laws[i]);
            int[] ranks = {0, 1, 9, 10, 11, 12, 13, 100, 3340, Integer.MAX_VALUE};
            for (int rank : ranks) {
                for (int what = 0; what <= 2; what++) {
                    due("witness " + rank + " against " + laws[i] + " is told, 1",
                        x.witness(0, rank, what) == NONE ? 0 : 1, rank < told[i] ? 1 : 0);
                }
                due("rank below 0", x.witness(0, -1 - rank, 0), BAD);
            }
        }
    }

    private static void model() {
        promise("21: model", "`size`: 1 to 3", "`rank`: a rank, from 0",
            "Returns the code; BAD_VALUE (size, or rank is negative); NONE if there are not so many.");
        range("size", LawWorlds::new, 1, 3, BAD, (x, size) -> x.model(size, 0));
        int[] told = {0, 1, 10, 3330};
        int[] last = {0, 0, 12, 19305};
        for (int size = 1; size <= 3; size++) {
            LawWorlds x = new LawWorlds();
            due("the first one", x.model(size, 0), 0);
            due("the last one", x.model(size, told[size] - 1), last[size]);
            due("the first one outside", x.model(size, told[size]), NONE);
            due("far outside", x.model(size, Integer.MAX_VALUE), NONE);
            due("rank -1", x.model(size, -1), BAD);
            due("the least rank", x.model(size, Integer.MIN_VALUE), BAD);
            x = with(2, 0, "x=y");
            due("x=y, first", x.model(size, 0), size == 1 ? 0 : NONE);
            due("x=y, second", x.model(size, 1), NONE);
            due("x=y, rank -1", x.model(size, -1), BAD);
        }
    }

    private static void models() {
        promise("22: models", "`size`: 1 to 3",
            "`all`: whether all models are counted, otherwise those that are told (each one once up to likeness)",
            "Returns how many; BAD_VALUE.");
        range("size, all", LawWorlds::new, 1, 3, BAD, (x, size) -> x.models(size, true));
        range("size, told", LawWorlds::new, 1, 3, BAD, (x, size) -> x.models(size, false));
        int[] told = {0, 1, 10, 3330};
        for (int size = 1; size <= 3; size++) {
            LawWorlds x = new LawWorlds();
            due("without laws, all", x.models(size, true), CODES[size]);
            due("without laws, told", x.models(size, false), told[size]);
            add(x, "x=y");
            due("x=y, all", x.models(size, true), size == 1 ? 1 : 0);
            due("x=y, told", x.models(size, false), size == 1 ? 1 : 0);
            x = with(1, 0, "xy=x");
            due("one alone, all", x.models(size, true), 1);
            due("one alone, told", x.models(size, false), 1);
        }
    }

    private static void paired() {
        promise("23: paired", "`size`: 1 to 3", "`code`: a code of this size", "`law`: a law",
            "in how many of the cases it is broken in the pair", "(of m things there are m * m * m cases); "
            + "BAD_VALUE (size or code); UNKNOWN (law).");
        range("size", () -> lawful(1), 1, 3, BAD, (x, size) -> x.paired(size, 0, 0));
        for (int size = 1; size <= 3; size++) {
            int n = size;
            range("code", () -> lawful(1), 0, CODES[size] - 1, BAD, (x, code) -> x.paired(n, code, 0));
            for (int laws = 0; laws <= 5; laws++) {
                int there = laws;
                range("law", () -> lawful(there), 0, laws - 1, UNKNOWN, (x, law) -> x.paired(n, CODES[n] - 1, law));
            }
        }
        LawWorlds x = with(3, 19682, "xx=y;x=x;xx=x");
        due("the fewest cases", x.paired(3, 19682, 1), 0);
        due("of 729 cases", x.paired(3, 0, 0), 648);
        x.take(1, 0);
        due("of one case", x.paired(1, 0, 0), 0);
        x.take(3, code(3, 1, 0, 0, 0, 2, 0, 0, 0, 0));
        due("in all cases", x.paired(3, 0, 2), 729);
    }

    private static void alike() {
        promise("24: alike", "`size`: 1 to 3", "`one`: a code of this size", "`other`: a code of this size",
            "Returns 1 if both worlds are alike, otherwise 0; BAD_VALUE.");
        range("size", LawWorlds::new, 1, 3, BAD, (x, size) -> x.alike(size, 0, 0));
        for (int size = 1; size <= 3; size++) {
            int n = size;
            range("one", LawWorlds::new, 0, CODES[size] - 1, BAD, (x, one) -> x.alike(n, one, 0));
            range("other", LawWorlds::new, 0, CODES[size] - 1, BAD, (x, other) -> x.alike(n, CODES[n] - 1, other));
            LawWorlds x = new LawWorlds();
            due("the first and the last", x.alike(size, 0, CODES[size] - 1), 1);
            due("the last and the first", x.alike(size, CODES[size] - 1, 0), 1);
            due("the last with itself", x.alike(size, CODES[size] - 1, CODES[size] - 1), 1);
            due("the first and the second", x.alike(size, 0, 1), size == 1 ? BAD : 0);
        }
        // Each of the six renamings of a world in which all things differ; the next code is of another kind.
        List<Integer> kinds = new ArrayList<>();
        LawWorlds y = at(3, 5000);
        for (int i = 0; i < 6; i++) {
            kinds.add(i % 2 == 0 ? y.rename(0, 1) : y.rename(1, 2));
        }
        LawWorlds x = new LawWorlds();
        for (int one : kinds) {
            for (int other : kinds) {
                due("alike(3, " + one + ", " + other + ")", x.alike(3, one, other), 1);
            }
            due("alike(3, " + one + ", 5001)", x.alike(3, one, 5001), 0);
        }
    }

    private static void count() {
        promise("25: count", "0 for laws, 1 for laws that are on, 2 for laws that hold in the world of now (on or off), "
            + "3 for laws that follow (on or off), 4 for the states in the history, 5 for the length of the text",
            "Returns the number; BAD_VALUE.");
        range("what", LawWorlds::new, 0, 5, BAD, LawWorlds::count);
        range("what", () -> with(3, 19682, FIVE), 0, 5, BAD, LawWorlds::count);
        // The greatest answers: five laws, all on, all hold, all follow; four states, sixty characters.
        LawWorlds x = with(1, 0, "x=x;y=y;z=z;xy=xy;x=x");
        x.take(2, 1);
        x.take(2, 2);
        x.take(1, 0);
        write(x, "z".repeat(61));
        int[] most = {5, 5, 5, 5, 4, 60};
        for (int what = 0; what <= 5; what++) {
            due("count(" + what + ") at most", x.count(what), most[what]);
        }
        x = with(2, 0, "x=y;x=z;y=z;y=x;z=x");
        for (int law = 0; law < 5; law++) {
            x.turnLaw(law, false);
        }
        x.clearText();
        int[] none = {5, 0, 0, 0, 4, 0};
        for (int what = 0; what <= 5; what++) {
            due("count(" + what + ") of none", x.count(what), none[what]);
        }
        x.take(1, 0);
        due("off, but they hold", x.count(2), 5);
        x.turnLaw(0, true);
        due("the four others follow of the one that is on", x.count(3), 4);
    }
}
