import java.io.IOException;
import java.nio.charset.StandardCharsets;
import java.nio.file.Files;
import java.nio.file.Path;
import java.util.TreeSet;

// Each sentence of the document's "Terms" that names a boundary case has a test of its own here. A test begins with
// the words that it holds the class to, which have to stand in the document just so.
public final class LawWorldsEdges {
    private static final String DOCUMENT = "../shared/DOC.md";
    private static final int UNKNOWN = -1;
    private static final int BAD = -2;
    private static final int FULL = -3;
    private static final int NONE = -5;
    private static final int[] CODES = {0, 1, 16, 19683};

    private static String document = "";
    private static String sentence = "";
    private static int wrong = 0;

    private static void says(String words) {
        sentence = words;
        if (!document.contains(words)) {
            wrong++;
            System.out.println("the document does not say: " + words);
        }
    }

    private static void due(String call, int got, int want) {
        if (got != want) {
            wrong++;
            System.out.println("\"" + sentence + "\": " + call + " answered " + got + ", due is " + want);
        }
    }

    public static void main(String[] args) throws IOException {
        document = Files.readString(Path.of(DOCUMENT), StandardCharsets.UTF_8);
        use();
        sizes();
        things();
        codeSum();
        codeBounds();
        likeness();
        plainCodes();
        worldOfNow();
        mostLaws();
        lawNumbers();
        onAtFirst();
        lawHolds();
        caseNumbers();
        letterThings();
        brokenCases();
        modelsOfLawsThatAreOn();
        modelsAreTold();
        witnesses();
        witnessesByBrokenCases();
        witnessesBySizeAndCode();
        twelveWitnesses();
        follows();
        pairs();
        pairsPutTogether();
        mostTyped();
        lawsOfText();
        sidesOfText();
        leftOn();
        eightLetters();
        threeBrackets();
        deepestBrackets();
        faults();
        textEndsTooEarly();
        fourStates();
        undoLatest();
        eachAct();
        noAct();
        oneSnapshot();
        stateIsAllElse();
        stateHasFiveLaws();
        orderOfChecks();
        noneIsNoError();
        constants();
        System.out.println(wrong == 0 ? "all edges hold" : wrong + " answers are not as due");
        if (wrong != 0) {
            System.exit(1);
        }
    }

    // ---- helpers

    private static LawWorlds at(int size, int code) {
        LawWorlds x = new LawWorlds();
        x.take(size, code);
        return x;
    }

    private static void write(LawWorlds x, String text) {
        x.clearText();
        for (int i = 0; i < text.length(); i++) {
            x.type(text.charAt(i));
        }
    }

    private static int add(LawWorlds x, String text) {
        write(x, text);
        return x.addLaws();
    }

    private static LawWorlds with(int size, int code, String text) {
        LawWorlds x = at(size, code);
        int added = add(x, text);
        due("addLaws() of " + text, added, text.split(";").length);
        return x;
    }

    private static int power(int base, int exponent) {
        int power = 1;
        for (int i = 0; i < exponent; i++) {
            power *= base;
        }
        return power;
    }

    // ---- what it is

    private static void use() {
        says("An object is used for at most 512 calls after it has been made");
        LawWorlds x = new LawWorlds();
        for (int call = 1; call <= 512; call++) {
            due("put, call " + call, x.put(1, 1, call % 2), call % 2 * 8);
        }
        x = with(2, 0, "xy=yx;x=x");
        // Twelve calls have been made: take, clearText, nine of type, addLaws.
        for (int call = 13; call < 511; call++) {
            x.refute(0);
        }
        due("count(3), call 511", x.count(3), 1);
        due("count(4), call 512", x.count(4), 4);
    }

    // ---- worlds

    private static void sizes() {
        says("A world has a size n, 1 to 3");
        for (int size = -1; size <= 5; size++) {
            boolean isSize = size >= 1 && size <= 3;
            LawWorlds x = with(2, 1, "x=x");
            due("take of size " + size, x.take(size, 0), isSize ? 1 : BAD);
            due("size after take of size " + size, x.world(0), isSize ? size : 2);
            due("model of size " + size, x.model(size, 0), isSize ? 0 : BAD);
            due("models of size " + size, x.models(size, true), isSize ? CODES[size] : BAD);
            due("paired with size " + size, x.paired(size, 0, 0), isSize ? 0 : BAD);
            due("alike of size " + size, x.alike(size, 0, 0), isSize ? 1 : BAD);
        }
    }

    private static void things() {
        says("and things, numbered from 0 to n - 1; of each two things a and b, in this order, it tells what comes of them");
        for (int size = 1; size <= 3; size++) {
            for (int a = -1; a <= 4; a++) {
                boolean isThing = a >= 0 && a < size;
                for (int b = 0; b < size; b++) {
                    LawWorlds x = at(size, 0);
                    String call = a + " with " + b + " of " + size + " things";
                    due("of " + call, x.of(a, b), isThing ? 0 : UNKNOWN);
                    due("of, turned, " + call, x.of(b, a), isThing ? 0 : UNKNOWN);
                    due("put, turned, " + call, x.put(b, a, 0), isThing ? NONE : UNKNOWN);
                    due("put " + call, x.put(a, b, 0), isThing ? NONE : UNKNOWN);
                    int code = a <= 0 ? NONE : a * power(size, size * b + b);
                    due("put of the value " + call, x.put(b, b, a), isThing ? code : UNKNOWN);
                    due("the value " + call, x.of(b, b), isThing ? a : 0);
                }
            }
            LawWorlds x = at(size, 0);
            x.put(size - 1, 0, size - 1);
            due("of the last and the first of " + size, x.of(size - 1, 0), size - 1);
            due("of the first and the last of " + size, x.of(0, size - 1), size == 1 ? size - 1 : 0);
        }
    }

    private static void codeSum() {
        says("The code of a world is the sum, over all a and b, of what comes of a and b, times n to the power of n * a + b.");
        for (int size = 1; size <= 3; size++) {
            LawWorlds full = at(size, 0);
            int sum = 0;
            for (int place = size * size - 1; place >= 0; place--) {
                LawWorlds x = at(size, 0);
                for (int value = 1; value < size; value++) {
                    int code = value * power(size, place);
                    due("put at the place " + place, x.put(place / size, place % size, value), code);
                    due("code, place " + place, x.world(1), code);
                    due("taken, place " + place, at(size, code).of(place / size, place % size), value);
                    due("next place, " + place, place + 1 < size * size
                        ? at(size, code).of((place + 1) / size, (place + 1) % size) : 0, 0);
                }
                sum += (size - 1) * power(size, place);
                full.put(place / size, place % size, size - 1);
                due("code with the places from " + place + " on", full.world(1), sum);
            }
            due("the greatest code of the size " + size, sum, CODES[size] - 1);
        }
    }

    private static void codeBounds() {
        says("(So it is less than n to the power of n * n: 1, 16 or 19683.)");
        int[] far = {Integer.MIN_VALUE, -CODES[3], -1, Integer.MAX_VALUE};
        for (int size = 1; size <= 3; size++) {
            int last = CODES[size] - 1;
            LawWorlds x = with(size == 2 ? 3 : 2, 0, "x=x");
            due("take of the last code " + last, x.take(size, last), 0);
            due("take of the first one outside", x.take(size, last + 1), BAD);
            due("code then", x.world(1), last);
            due("paired with the last code", x.paired(size, last, 0), 0);
            due("paired with the first one outside", x.paired(size, last + 1, 0), BAD);
            due("alike of the last code", x.alike(size, last, last), 1);
            due("alike, the one outside", x.alike(size, last + 1, last), BAD);
            due("alike, the other outside", x.alike(size, last, last + 1), BAD);
            for (int code : far) {
                due("take of " + code, x.take(size, code), BAD);
                due("paired with " + code, x.paired(size, code, 0), BAD);
                due("alike, the one " + code, x.alike(size, code, 0), BAD);
                due("alike, the other " + code, x.alike(size, 0, code), BAD);
            }
            if (size > 1) {
                due("take of the last code of less things", x.take(size - 1, CODES[size - 1] - 1), last);
                due("take of one more", x.take(size - 1, CODES[size - 1]), BAD);
            }
        }
    }

    /** The codes of all worlds that come of one by exchanges, each one after another. */
    private static TreeSet<Integer> exchanged(int size, int code) {
        TreeSet<Integer> codes = new TreeSet<>();
        LawWorlds x = at(size, code);
        codes.add(code);
        for (int i = 0; i < 6; i++) {
            if (size > 1) {
                x.rename(0, 1);
                codes.add(x.world(1));
            }
            if (size > 2) {
                x.rename(1, 2);
                codes.add(x.world(1));
            }
        }
        return codes;
    }

    private static void likeness() {
        says("Two worlds of one size are alike if the things of the one can be renamed, each to another name, "
            + "so that it becomes the other one.");
        for (int code = 0; code < CODES[2]; code++) {
            LawWorlds x = new LawWorlds();
            for (int other = 0; other < CODES[2]; other++) {
                due("alike(2, " + code + ", " + other + ")", x.alike(2, code, other),
                    exchanged(2, code).contains(other) ? 1 : 0);
            }
        }
        due("one thing", at(1, 0).alike(1, 0, 0), 1);
        for (int code = 0; code < CODES[3]; code += 1093) {
            TreeSet<Integer> codes = exchanged(3, code);
            LawWorlds x = at(3, code);
            due("how many are alike to " + code, x.world(3), codes.size());
            for (int other : codes) {
                due("alike(3, " + code + ", " + other + ")", x.alike(3, code, other), 1);
                due("the one before " + other, x.alike(3, code, other - 1), other > 0 ? codes.contains(other - 1) ? 1 : 0 : BAD);
                due("the one behind " + other, x.alike(3, other + 1, code),
                    other < CODES[3] - 1 ? codes.contains(other + 1) ? 1 : 0 : BAD);
            }
        }
    }

    private static void plainCodes() {
        says("The plain code of a world is the least code of all worlds that are alike to it.");
        due("of one thing", at(1, 0).world(2), 0);
        due("of one thing, alike", at(1, 0).world(3), 1);
        for (int code = 0; code < CODES[2]; code++) {
            due("world(2) of 2, " + code, at(2, code).world(2), exchanged(2, code).first());
        }
        for (int code = 0; code < CODES[3]; code += 91) {
            due("world(2) of 3, " + code, at(3, code).world(2), exchanged(3, code).first());
        }
        due("the least code", at(3, 0).world(2), 0);
        due("the greatest code", at(3, 19682).world(2), 0);
        due("the greatest plain code", at(3, 19305).world(2), 19305);
        for (int code = 19306; code < CODES[3]; code++) {
            due("a code above it is plain, 1: " + code, at(3, code).world(2) < code ? 1 : 0, 1);
        }
    }

    private static void worldOfNow() {
        says("There is one world of now (at first of the size 2, with the code 0).");
        LawWorlds x = new LawWorlds();
        due("world(0)", x.world(0), 2);
        due("world(1)", x.world(1), 0);
        due("take(2, 0)", x.take(2, 0), NONE);
        for (int a = 0; a < 2; a++) {
            for (int b = 0; b < 2; b++) {
                due("of(" + a + ", " + b + ")", x.of(a, b), 0);
            }
        }
        due("of(2, 0)", x.of(2, 0), UNKNOWN);
        x.take(3, 8);
        due("the one of now", x.world(0) * 100 + x.world(1), 308);
        due("another object's", new LawWorlds().world(0), 2);
    }

    // ---- laws

    private static void mostLaws() {
        says("There are at most 5 laws");
        LawWorlds x = new LawWorlds();
        write(x, "x=x");
        for (int laws = 1; laws <= 5; laws++) {
            due("addLaws(), law " + laws, x.addLaws(), 1);
            due("count(0)", x.count(0), laws);
        }
        due("addLaws(), law 6", x.addLaws(), FULL);
        due("count(0)", x.count(0), 5);
        due("five at once", add(new LawWorlds(), "x=x;x=y;x=z;y=x;y=y"), 5);
        due("six at once", add(new LawWorlds(), "x=x;x=y;x=z;y=x;y=y;y=z"), FULL);
        for (int there = 0; there <= 5; there++) {
            for (int more = 1; more <= 6; more++) {
                x = new LawWorlds();
                write(x, "x=y");
                for (int i = 0; i < there; i++) {
                    x.addLaws();
                }
                boolean hasRoom = there + more <= 5;
                due(more + " to " + there, add(x, "x=x;".repeat(more - 1) + "x=x"), hasRoom ? more : FULL);
                due("laws then", x.count(0), hasRoom ? there + more : there);
            }
        }
        x = with(2, 0, "x=x;x=y;x=z;y=x;y=y");
        x.turnLaw(0, false);
        due("one that is off takes room too", add(x, "z=z"), FULL);
        x.removeLaw(4);
        due("in the place of one removed", x.addLaws(), 1);
        due("and no other", x.addLaws(), FULL);
        due("of the fifth law", x.law(4, 3), 4);
    }

    private static void lawNumbers() {
        says("numbered from 0 in the order in which they came");
        LawWorlds x = new LawWorlds();
        String[] laws = {"x=x", "y=x", "z=y", "z=x", "zx=y"};
        int[] sets = {1, 3, 6, 5, 7};
        for (int there = 0; there <= 5; there++) {
            for (int law = -1; law <= 6; law++) {
                boolean isLaw = law >= 0 && law < there;
                String call = " of the law " + law + ", " + there + " there";
                due("law" + call, x.law(law, 3), isLaw ? sets[law] : UNKNOWN);
                due("side" + call, x.side(law, true, 7), isLaw ? 1 : UNKNOWN);
                due("paired" + call, x.paired(1, 0, law), isLaw ? x.law(law, 1) : UNKNOWN);
                due("witness" + call, x.witness(law, 12, 0), isLaw ? NONE : UNKNOWN);
                due("turnLaw" + call, x.turnLaw(law, true), isLaw ? NONE : UNKNOWN);
            }
            due("removeLaw, first outside", x.removeLaw(there), UNKNOWN);
            due("refute, first outside", x.refute(there), UNKNOWN);
            if (there < 5) {
                due("addLaws()", add(x, laws[there]), 1);
            }
        }
    }

    private static void onAtFirst() {
        says("each on (at first) or off");
        LawWorlds x = with(2, 0, "x=y;y=z;xx=x;x=xy;x=z");
        for (int law = 0; law < 5; law++) {
            due("law(" + law + ", 0)", x.law(law, 0), 1);
            due("turnLaw on", x.turnLaw(law, true), NONE);
        }
        due("count(1)", x.count(1), 5);
        for (int law = 4; law >= 0; law--) {
            due("turnLaw off", x.turnLaw(law, false), law);
            due("law(" + law + ", 0)", x.law(law, 0), 0);
            due("turnLaw off again", x.turnLaw(law, false), NONE);
        }
        due("count(1)", x.count(1), 0);
        x.removeLaw(2);
        due("addLaws()", add(x, "z=x"), 1);
        due("a new one in a place of one that was off", x.law(4, 0), 1);
        due("count(1)", x.count(1), 1);
    }

    private static void lawHolds() {
        says("A law holds in a world if, whatever things the letters stand for, what comes of both sides is the same thing.");
        LawWorlds x = with(2, 0, "xy=yx;xyz=x(yz);xy=x");
        due("all laws hold but for the last one", x.count(2), 2);
        due("world(7)", x.world(7), 0);
        x.turnLaw(2, false);
        due("world(7) with the last one off", x.world(7), 1);
        due("count(2), on or off", x.count(2), 2);
        x.turnLaw(0, false);
        x.turnLaw(1, false);
        due("world(7) with no law on", x.world(7), 1);
        due("world(7) without laws", new LawWorlds().world(7), 1);
        // A world in which xyz=x(yz) is broken in one of 27 cases.
        x = with(2, 0, "xyz=x(yz)");
        x.refute(0);
        due("broken in one case", x.law(0, 1), 1);
        due("world(7)", x.world(7), 0);
        due("count(2)", x.count(2), 0);
        due("cases of three things", x.world(0), 3);
        x = with(1, 0, "x=y;xy=z;xyzxyzxy=z;x=y(zz);(((x)))=z");
        due("all laws hold in a world of one thing", x.count(2), 5);
        due("world(7)", x.world(7), 1);
    }

    private static void caseNumbers() {
        says("A case of a world of the size n is a number c from 0 to n * n * n - 1");
        for (int size = 1; size <= 3; size++) {
            LawWorlds x = with(size, 0, "x=z");
            int cases = size * size * size;
            for (int number = 0; number < cases; number++) {
                due("left side in " + number, x.side(0, false, number), number % size);
            }
            int[] outside = {-1, cases, cases + 1, Integer.MIN_VALUE, Integer.MAX_VALUE};
            for (int number : outside) {
                due("left side of " + size + " things in " + number, x.side(0, false, number), BAD);
                due("right side of " + size + " things in " + number, x.side(0, true, number), BAD);
            }
        }
    }

    private static void letterThings() {
        says("x stands for the thing c % n, y for c / n % n, z for c / (n * n) (all three, whether a law has them or not)");
        for (int size = 1; size <= 3; size++) {
            LawWorlds x = with(size, 0, "x=y;z=z");
            for (int number = 0; number < size * size * size; number++) {
                due("x in " + number, x.side(0, false, number), number % size);
                due("y in " + number, x.side(0, true, number), number / size % size);
                due("z in " + number, x.side(1, false, number), number / (size * size));
                due("z, right, in " + number, x.side(1, true, number), number / (size * size));
            }
            // x and y differ n * (n - 1) times, each time with n things for z, which the law has not.
            due("x=y of " + size, x.law(0, 1), size * size * (size - 1));
            due("x=y of a pair with it", x.paired(size, 0, 0), power(size, 6) - power(size, 4));
        }
    }

    private static void brokenCases() {
        says("A law is broken in the cases in which its sides are not the same.");
        int[][] asked = {{1, 0}, {2, 0}, {2, 4}, {2, 15}, {3, 0}, {3, 5000}, {3, 19682}, {3, 12345}};
        for (int[] world : asked) {
            LawWorlds x = with(world[0], world[1], "xy=yx;xyz=x(yz);xx=y");
            for (int law = 0; law < 3; law++) {
                int broken = 0;
                int first = NONE;
                for (int number = 0; number < power(world[0], 3); number++) {
                    if (x.side(law, false, number) != x.side(law, true, number)) {
                        broken++;
                        first = first == NONE ? number : first;
                    }
                }
                due("law(" + law + ", 1) at " + world[1], x.law(law, 1), broken);
                due("law(" + law + ", 6) at " + world[1], x.law(law, 6), first);
            }
        }
        LawWorlds x = with(3, 0, "z=y;z=x;x=xx");
        due("the first case may be the 3rd one", x.law(0, 6), 3);
        due("the first case may be the 1st one", x.law(1, 6), 1);
        // Only where x is 2 and no other thing is the law broken: first in the case 2.
        due("put", x.put(1, 1, 1), 81);
        due("the first case may be the 2nd one", x.law(2, 6), 2);
        due("and there are 9", x.law(2, 1), 9);
        due("put", x.put(2, 2, 2), 81 + 13122);
        due("none is left", x.law(2, 1), 0);
        due("no first case", x.law(2, 6), NONE);
        // Of 1 and 1 alone comes 1: xy and zx differ where x is 1, and y or z, but not both.
        x = with(2, 8, "xy=zx;xy=yz;xx=zy");
        due("xy=zx", x.law(0, 1) * 10 + x.law(0, 6), 23);
        due("xy=yz", x.law(1, 1) * 10 + x.law(1, 6), 23);
        due("xx=zy", x.law(2, 1) * 10 + x.law(2, 6), 41);
    }

    // ---- all worlds

    private static void modelsOfLawsThatAreOn() {
        says("A model is a world in which all laws that are on hold.");
        LawWorlds x = new LawWorlds();
        int[] plain = {0, 1, 10, 3330};
        for (int size = 1; size <= 3; size++) {
            due("models without laws", x.models(size, true), CODES[size]);
            due("models without laws, told", x.models(size, false), plain[size]);
        }
        x = with(2, 0, "x=y;x=x");
        for (int size = 1; size <= 3; size++) {
            due("models of x=y", x.models(size, true), size == 1 ? 1 : 0);
            due("models of x=y, told", x.models(size, false), size == 1 ? 1 : 0);
            due("first model of x=y", x.model(size, 0), size == 1 ? 0 : NONE);
        }
        x.turnLaw(0, false);
        for (int size = 1; size <= 3; size++) {
            due("models with x=y off", x.models(size, true), CODES[size]);
        }
        x.turnLaw(1, false);
        due("models with all off", x.models(3, false), 3330);
        x.turnLaw(0, true);
        due("models with x=y alone on", x.models(3, false), 0);
        // The fifth law alone is broken somewhere.
        x = with(2, 0, "x=x;y=y;z=z;xy=xy;x=y");
        due("models with five laws on", x.models(3, true), 0);
        due("another law follows of the five, but for its own", x.law(0, 5), 0);
        x.turnLaw(4, false);
        due("models with the fifth one off", x.models(3, true), 19683);
        // Each one of two laws alone has more models than both.
        x = with(2, 0, "xy=x;xy=y");
        due("both", x.models(2, true), 0);
        x.turnLaw(0, false);
        due("the second one", x.model(2, 0), 10);
        x.turnLaw(1, false);
        x.turnLaw(0, true);
        due("the first one", x.model(2, 0), 12);
    }

    private static void modelsAreTold() {
        says("Models are told by their plain codes alone, each one once, rising.");
        int[] told = {0, 1, 10, 3330};
        for (int size = 1; size <= 3; size++) {
            int before = -1;
            LawWorlds x = new LawWorlds();
            for (int rank = 0; rank < told[size]; rank++) {
                // An object is used for 512 calls alone.
                x = rank % 100 == 0 ? new LawWorlds() : x;
                int code = x.model(size, rank);
                due("rank " + rank + " rises, 1", code > before ? 1 : 0, 1);
                x.take(size, code);
                due("rank " + rank + " is plain", x.world(2), code);
                before = code;
            }
            x = new LawWorlds();
            due("first rank outside", x.model(size, told[size]), NONE);
        }
        // Two of the eight commutative worlds of two things are alike to two more; four have one alike.
        LawWorlds x = with(2, 0, "xy=yx");
        int[] codes = {0, 1, 6, 8};
        for (int rank = 0; rank < codes.length; rank++) {
            due("commutative, rank " + rank, x.model(2, rank), codes[rank]);
        }
        due("commutative, rank 4", x.model(2, 4), NONE);
        due("commutative, told", x.models(2, false), 4);
        due("commutative, all", x.models(2, true), 8);
    }

    private static void witnesses() {
        says("A witness against a law is a world with a plain code as its code, of any size, in which the law is broken "
            + "in some cases, and all other laws that are on hold (whether the law itself is on does not matter).");
        // Of each size but one, in which no law is broken: xz=xy, in worlds in which x(xy)=yy.
        for (int turned = 0; turned < 2; turned++) {
            LawWorlds x = with(2, 0, "xz=xy;x(xy)=yy");
            if (turned == 1) {
                x.turnLaw(0, false);
            }
            due("law(0, 5)", x.law(0, 5), 12);
            due("first size", x.witness(0, 0, 0), 2);
            due("first code", x.witness(0, 0, 1), 10);
            due("last size", x.witness(0, 11, 0), 3);
            due("last code", x.witness(0, 11, 1), 15897);
            for (int rank = 0; rank < 12; rank++) {
                x.take(x.witness(0, rank, 0), x.witness(0, rank, 1));
                due("plain code of rank " + rank, x.world(2), x.world(1));
                due("broken at rank " + rank, x.law(0, 1), x.witness(0, rank, 2));
                due("the other law at rank " + rank, x.law(1, 1), 0);
            }
            x.turnLaw(1, false);
            due("with the other law off there are others", x.witness(0, 0, 1) == 10 ? 1 : 0, 0);
        }
        LawWorlds x = with(2, 0, "x=y;x=y");
        due("its copy is another law", x.law(0, 5), 0);
        x.turnLaw(0, false);
        due("its copy is on, itself off", x.law(0, 5), 0);
        due("the copy, which is on", x.law(1, 5), 12);
        x.turnLaw(0, true);
        x.turnLaw(1, false);
        due("its copy is off", x.law(0, 5), 12);
    }

    /** Holds the class to all witnesses against the first law: size, code and broken cases of each. */
    private static void told(String laws, int[][] due) {
        LawWorlds x = with(1, 0, laws);
        due("how many against " + laws, x.law(0, 5), Math.min(due.length, 12));
        for (int rank = 0; rank < due.length && rank < 12; rank++) {
            for (int what = 0; what < 3; what++) {
                due("witness(0, " + rank + ", " + what + ") against " + laws, x.witness(0, rank, what), due[rank][what]);
            }
        }
        due("first rank outside", x.witness(0, Math.min(due.length, 12), 0), NONE);
    }

    private static void witnessesByBrokenCases() {
        says("Witnesses are ordered: those with fewer broken cases first");
        // In rising order of their codes they are broken in 4 18 18 9 18 18 18 18 18 18 12 6 cases.
        told("xy=x;xyy=xx", new int[][] {
            {2, 0, 4}, {3, 14937, 6}, {3, 351, 9}, {3, 14235, 12}, {3, 0, 18}, {3, 54, 18}, {3, 486, 18},
            {3, 540, 18}, {3, 1215, 18}, {3, 2673, 18}, {3, 2727, 18}, {3, 14001, 18},
        });
        // The greater size comes first if it has fewer broken cases.
        LawWorlds x = with(2, 0, "xyz=x(yz)");
        due("size of the first", x.witness(0, 0, 0), 3);
        due("cases of the first", x.witness(0, 0, 2), 1);
        x = with(2, 0, "xy=xx;x(yz)=xx");
        due("fewest cases of xy=xx", x.witness(0, 0, 2), 3);
    }

    private static void witnessesBySizeAndCode() {
        says("of several the lesser size, then the lesser code.");
        told("xz=xy;x(xy)=yy", new int[][] {
            {2, 10, 4}, {3, 6, 4}, {3, 243, 4}, {3, 249, 8}, {3, 252, 8}, {3, 4617, 8}, {3, 2271, 12},
            {3, 4623, 12}, {3, 14001, 18}, {3, 14007, 18}, {3, 14439, 18}, {3, 15897, 18},
        });
        told("xy=xx;x(yz)=xx", new int[][] {
            {3, 4, 3}, {3, 6, 3}, {3, 108, 3}, {3, 121, 3}, {3, 243, 3}, {3, 256, 3}, {3, 355, 3}, {3, 360, 3},
            {3, 112, 6}, {3, 117, 6}, {3, 247, 6}, {3, 252, 6},
        });
    }

    private static void twelveWitnesses() {
        says("The first 12 of them are told.");
        // Ten, eleven, twelve and thirteen of them; the thirteenth has as many broken cases as the twelfth.
        told("xx=y;xy=xx", new int[][] {
            {2, 0, 4}, {2, 3, 4}, {2, 12, 4}, {3, 0, 18}, {3, 13, 18}, {3, 351, 18}, {3, 364, 18}, {3, 377, 18},
            {3, 715, 18}, {3, 19305, 18},
        });
        told("xx=x;x(yz)=xz", new int[][] {
            {2, 0, 4}, {2, 3, 8}, {3, 351, 9}, {3, 2271, 9}, {3, 2811, 9}, {3, 0, 18}, {3, 364, 18}, {3, 377, 18},
            {3, 2291, 18}, {3, 13, 27}, {3, 715, 27},
        });
        told("xy=y;x(xy)=yy", new int[][] {
            {2, 0, 4}, {3, 14439, 6}, {3, 2271, 9}, {3, 14007, 12}, {3, 0, 18}, {3, 6, 18}, {3, 243, 18},
            {3, 249, 18}, {3, 252, 18}, {3, 4617, 18}, {3, 4623, 18}, {3, 14001, 18},
        });
        told("xx=x;x(yz)=xy", new int[][] {
            {2, 0, 4}, {2, 3, 8}, {3, 351, 9}, {3, 357, 9}, {3, 4725, 9}, {3, 4731, 9}, {3, 0, 18}, {3, 364, 18},
            {3, 371, 18}, {3, 377, 18}, {3, 4745, 18}, {3, 13, 27}, {3, 715, 27},
        });
        // Fourteen, of which the one with the most broken cases comes early among the codes.
        told("xy=x;x(xy)=yy", new int[][] {
            {2, 0, 4}, {2, 10, 4}, {3, 4617, 12}, {3, 243, 15}, {3, 4623, 15}, {3, 0, 18}, {3, 249, 18}, {3, 252, 18},
            {3, 2271, 18}, {3, 14001, 18}, {3, 14007, 18}, {3, 14439, 18}, {3, 15897, 18}, {3, 6, 21},
        });
        // All 3340 worlds of two and three things.
        told("x=y", new int[][] {
            {2, 0, 4}, {2, 1, 4}, {2, 2, 4}, {2, 3, 4}, {2, 4, 4}, {2, 5, 4}, {2, 6, 4}, {2, 8, 4}, {2, 10, 4},
            {2, 12, 4}, {3, 0, 18}, {3, 1, 18}, {3, 2, 18},
        });
    }

    private static void follows() {
        says("A law follows (in small worlds) if there is no witness against it.");
        LawWorlds x = with(2, 0, "x(yy)=xy;x(xy)=yx");
        due("one witness", x.law(0, 5), 1);
        due("so it does not follow", x.law(0, 4), 0);
        due("its size", x.witness(0, 0, 0), 3);
        due("its code", x.witness(0, 0, 1), 2511);
        due("its cases", x.witness(0, 0, 2), 3);
        due("rank 1", x.witness(0, 1, 0), NONE);
        due("count(3)", x.count(3), 0);
        due("refute(0)", x.refute(0), 2511);
        add(x, "xx=x;xy=yx;xyz=x(yz)");
        due("with more laws there is none", x.law(0, 5), 0);
        due("so it follows", x.law(0, 4), 1);
        due("rank 0", x.witness(0, 0, 0), NONE);
        due("refute(0)", x.refute(0), NONE);
        x = with(2, 0, "x=x;xy=xy;x=y");
        due("sides that are the same", x.law(0, 4) + x.law(1, 4), 2);
        due("x=y follows of nothing", x.law(2, 4), 0);
        due("count(3)", x.count(3), 2);
        x.turnLaw(0, false);
        x.turnLaw(2, false);
        due("count(3) on or off", x.count(3), 2);
    }

    // ---- pairs

    private static void pairs() {
        says("The pair of two worlds has as its things all pairs of a thing of the one and a thing of the other");
        for (int size = 1; size <= 3; size++) {
            for (int other = 1; other <= 3; other++) {
                LawWorlds x = with(size, CODES[size] - 1, "x=y;x=x;xy=yx;xx=z");
                int things = size * other;
                due("x=y", x.paired(other, 0, 0), power(things, 3) - power(things, 2));
                due("x=x", x.paired(other, CODES[other] - 1, 1), 0);
                due("xy=yx", x.paired(other, CODES[other] - 1, 2), 0);
                due("xx=z", x.paired(other, 0, 3), power(things, 3) - power(things, 2));
            }
        }
        // Broken in the pair as soon as in one of both: xy=x holds in 12 (two things) and in none of 10's other cases.
        LawWorlds x = with(2, 12, "xy=x");
        due("holds in both", x.paired(2, 12, 0), 0);
        due("holds in the one alone", x.paired(2, 10, 0), 32);
        x.take(2, 10);
        due("holds in the other alone", x.paired(2, 12, 0), 32);
        due("holds in none", x.paired(2, 10, 0), 48);
        due("the world of now is as before", x.world(1), 10);
    }

    private static boolean[] same(LawWorlds x, int law) {
        boolean[] same = new boolean[power(x.world(0), 3)];
        for (int number = 0; number < same.length; number++) {
            same[number] = x.side(law, false, number) == x.side(law, true, number);
        }
        return same;
    }

    private static void pairsPutTogether() {
        says("of two of them comes the pair of what comes of their first things and of their second things.");
        String laws = "xy=yx;xyz=x(yz);xx=y";
        int[][] worlds = {{1, 0}, {2, 1}, {2, 6}, {3, 5000}, {3, 19682}};
        for (int[] one : worlds) {
            for (int[] other : worlds) {
                for (int law = 0; law < 3; law++) {
                    LawWorlds x = with(one[0], one[1], laws);
                    int broken = 0;
                    for (boolean first : same(x, law)) {
                        for (boolean second : same(with(other[0], other[1], laws), law)) {
                            broken += first && second ? 0 : 1;
                        }
                    }
                    due("law " + law + " of " + one[1] + " and " + other[1], x.paired(other[0], other[1], law), broken);
                }
            }
        }
    }

    // ---- texts

    private static void mostTyped() {
        says("There is a text of at most 60 characters, empty at first.");
        LawWorlds x = new LawWorlds();
        due("count(5)", x.count(5), 0);
        due("clearText()", x.clearText(), 0);
        due("addLaws()", x.addLaws(), -100);
        char[] typed = {'x', '\u0000', '\uffff', ' ', '(', '\u00ff', '\u0100', '7'};
        for (int length = 1; length <= 60; length++) {
            due("type", x.type(typed[length % typed.length]), length);
            due("count(5)", x.count(5), length);
        }
        for (char character : typed) {
            due("type the 61st", x.type(character), FULL);
            due("count(5)", x.count(5), 60);
        }
        due("clearText()", x.clearText(), 60);
        due("clearText()", x.clearText(), 0);
        for (int length = 1; length <= 60; length++) {
            due("type again", x.type('x'), length);
        }
        due("type again", x.type('x'), FULL);
        // The 60th character is one of the text, the 61st is not.
        write(x, "xyzxyzxy=xyzxyzxy;xyzxyzxy=xyzxyzxy;xyzxyzxy=xyzxyzxy;xyz=z;x");
        due("count(5)", x.count(5), 60);
        due("addLaws()", x.addLaws(), -160);
        write(x, "xyzxyzxy=xyzxyzxy;xyzxyzxy=xyzxyzxy;xyzxyzxy=xyzxyzxy;xy=zyx?");
        due("count(5)", x.count(5), 60);
        due("addLaws()", x.addLaws(), 4);
        due("letters of the last law", x.law(3, 2), 5);
        write(x, "xyzxyzxy=xyzxyzxy;xyzxyzxy=xyzxyzxy;xyzxyzxy=xyzxyzxy;xy=zy?");
        due("a fault at the 60th", x.addLaws(), -159);
    }

    private static void lawsOfText() {
        says("A text of laws is one or more laws with \";\" between two; a law is a side, \"=\", and a side.");
        String[] texts = {
            "", "x=y", "x=y;x=y", "x=y;x=y;x=y;x=y;x=y", ";", ";x=y", "x=y;", "x=y;;x=y", "x", "x;x=y", "xx;", "=", "=x",
            "x=", "x==y", "x=;x=y", "x=y=z", "x=y=", "x=y;=", "x=yz;z", "x=y;x;",
        };
        int[] answers = {
            -100, 1, 2, 5, -100, -100, -104, -104, -101, -101, -102, -100, -100,
            -102, -102, -102, -103, -103, -104, -106, -105,
        };
        for (int i = 0; i < texts.length; i++) {
            due("addLaws() of " + texts[i], add(new LawWorlds(), texts[i]), answers[i]);
        }
        // Fifteen laws are the most that a text can have; they are without a fault.
        due("fifteen laws", add(new LawWorlds(), "x=y;".repeat(14) + "x=y"), FULL);
        due("fifteen laws and a \";\"", add(new LawWorlds(), "x=y;".repeat(15)), -160);
    }

    private static void sidesOfText() {
        says("A side is a row of one or more parts, each a letter x, y or z, or \"(\", a side, and \")\"");
        for (int first = 0; first < 0x180; first += 100) {
            for (int character = first; character < first + 100; character++) {
                LawWorlds x = new LawWorlds();
                boolean isLetter = character >= 'x' && character <= 'z';
                x.type((char) character);
                due("first character " + character, x.addLaws(), isLetter || character == '(' ? -101 : -100);
                x.clearText();
                x.type('x');
                x.type((char) character);
                boolean mayFollow = isLetter || character == '(' || character == '=';
                due("second character " + character, x.addLaws(), mayFollow ? -102 : -101);
            }
        }
        char[] far = {'x' + 0x100, 'z' + 0x100, '(' + 0x100, '=' + 0x100, 'x' + 0x8000, '\uffff'};
        for (char character : far) {
            due("first character " + (int) character, add(new LawWorlds(), character + "=x"), -100);
            due("last character " + (int) character, add(new LawWorlds(), "x=x" + character), -103);
        }
        String[] texts = {
            "(x)=x", "x=(x)", "(x)(y)=z", "x(y)z=z", "((x)y)=x", "()=x", "x()=x", "(=x", "x=()", "x=(x", "x)=x", "x=x)",
            "(x=x)", "(x;x)", "((x)=x", "(x))=x", "x=(x;y=z)", ")x=y",
        };
        int[] answers = {1, 1, 1, 1, 1, -101, -102, -101, -103, -104, -101, -103, -102, -102, -104, -103, -104, -100};
        for (int i = 0; i < texts.length; i++) {
            due("addLaws() of " + texts[i], add(new LawWorlds(), texts[i]), answers[i]);
        }
    }

    private static void leftOn() {
        says("the parts are put together from the left on: xyz is (xy)z.");
        // In these worlds (xy)z and x(yz) are not the same in some cases.
        int[][] worlds = {{2, 1}, {2, 4}, {3, 5000}, {3, 1}};
        for (int[] world : worlds) {
            LawWorlds x = with(world[0], world[1],
                "xyz=(xy)z;xyz=x(yz);x(yz)(xy)z=((x(yz))(xy))z;xyzx=(xyz)x");
            due("xyz=(xy)z", x.law(0, 1), 0);
            due("xyz=x(yz) is broken, 1", x.law(1, 1) > 0 ? 1 : 0, 1);
            due("x(yz)(xy)z", x.law(2, 1), 0);
            due("xyzx", x.law(3, 1), 0);
            x = with(world[0], world[1], "((xyz)x)=(xy)zx;xyzxyzxy=((xyzxy)zx)y");
            due("within brackets too", x.law(0, 1), 0);
            due("eight in a row", x.law(1, 1), 0);
        }
    }

    private static void eightLetters() {
        says("A side that is a law's whole side has at most 8 letters");
        String[] texts = {
            "xyzxyzxy=x", "xyzxyzxyz=x", "x=xyzxyzxy", "x=xyzxyzxyz", "xyzxyzxy=xyzxyzxy", "xyzx(yzxy)=x", "xyzx(yzxyz)=x",
            "(xyzxyzxy)=x", "(xyzxyzxyz)=x", "(x)(x)(x)(x)(x)(x)(x)(x)=x", "(x)(x)(x)(x)(x)(x)(x)(x)x=x",
            "(x)(x)(x)(x)(x)(x)(x)(x)(x)=x", "x(x(x(xxxxx)))=x", "x(x(x(xxxxxx)))=x", "(((xxxxxxxx)))x=x",
            "xyzxyzxy=xyzxyzxy;xyzxyzxy=x", "xyzxyzxy=xyzxyzxy;xyzxyzxyz=x", "xyzxyzxy=x;xyzxyzxy=xyzxyzxyz",
        };
        int[] answers = {
            1, -108, 1, -110, 1, 1, -109, 1, -109, 1, -124, -125, 1, -111, -114, 2, -126, -128,
        };
        for (int i = 0; i < texts.length; i++) {
            due("addLaws() of " + texts[i], add(new LawWorlds(), texts[i]), answers[i]);
        }
        LawWorlds x = with(2, 9, "xyzxyzxy=xyzxyzxy;x=x");
        due("sixteen letters", x.law(0, 2), 16);
        due("two letters", x.law(1, 2), 2);
    }

    private static void threeBrackets() {
        says("brackets go at most 3 deep.");
        String[] texts = {
            "(x)=x", "((x))=x", "(((x)))=x", "((((x))))=x", "x=(((x)))", "x=((((x))))", "x(y(z(x)))=x", "x(y(z(x(y))))=x",
            "(((x)))(((x)))=x", "(((x))(x))=x", "(((x)(x)))=x", "(((x)(x(", "((x)((x)))=x", "((x)((x(x))))=x",
            "(x)(x)(x)(x)=x", "(((x)))=(((x)));(((x)))=(((x)))", "(((x)))=x;((((x))))=x",
        };
        int[] answers = {1, 1, 1, -103, 1, -105, 1, -107, 1, 1, 1, -107, 1, -107, 1, 2, -113};
        for (int i = 0; i < texts.length; i++) {
            due("addLaws() of " + texts[i], add(new LawWorlds(), texts[i]), answers[i]);
        }
    }

    private static void deepestBrackets() {
        says("brackets go at most 3 deep.");
        // Whatever is open waits while what is within it is worked out, on both sides.
        LawWorlds x = with(3, 5001, "x(y(z(xy)))=z(y(x(zy)));x(y(z))=xy(z(zy(xz))x)");
        LawWorlds w = at(3, 5001);
        for (int number = 0; number < 27; number++) {
            int a = number % 3;
            int b = number / 3 % 3;
            int c = number / 9;
            due("deep left side in " + number, x.side(0, false, number), w.of(a, w.of(b, w.of(c, w.of(a, b)))));
            due("deep right side in " + number, x.side(0, true, number), w.of(c, w.of(b, w.of(a, w.of(c, b)))));
            int within = w.of(w.of(c, b), w.of(a, c));
            due("left side in " + number, x.side(1, false, number), w.of(a, w.of(b, c)));
            due("right side in " + number, x.side(1, true, number), w.of(w.of(a, b), w.of(w.of(c, within), a)));
        }
    }

    private static void faults() {
        says("The fault of the text is the index, from 0, of the first character that is not allowed at its place "
            + "(a ninth letter, wherever it stands; a \"(\" within three others)");
        String right = "x(y(zx)y)zxy=yz(x);(((x)))=yyyyyyyy;xyzxyzxy=z;xxx=(y(z))x;z";
        due("length", right.length(), 60);
        for (int place = 0; place < 60; place++) {
            String text = right.substring(0, place) + "?" + right.substring(place + 1);
            due("addLaws() of " + text, add(new LawWorlds(), text), -100 - place);
            // Of two faults the first one is told.
            text = text.substring(0, 59) + "?";
            due("addLaws() of " + text, add(new LawWorlds(), text), -100 - place);
        }
        // Nine letters, the last one in each depth; a bracket is not yet a fault, nor one that ends.
        due("depth 0", add(new LawWorlds(), "xxxxxxxxx"), -108);
        due("depth 1", add(new LawWorlds(), "xxxxxxxx(x"), -109);
        due("depth 2", add(new LawWorlds(), "xxxxxxxx((y"), -110);
        due("depth 3", add(new LawWorlds(), "xxxxxxxx(((z"), -111);
        due("depth 4", add(new LawWorlds(), "xxxxxxxx((((z"), -111);
        due("behind brackets", add(new LawWorlds(), "(((xxxxxxxx)))z=x"), -114);
        due("a fault before the ninth letter", add(new LawWorlds(), "xx?xxxxxxx"), -102);
        due("a fault before the fourth bracket", add(new LawWorlds(), "(?((x"), -101);
    }

    private static void textEndsTooEarly() {
        says("or the length of the text if it ends too early (the empty text does).");
        String right = "x(y(zx)y)zxy=yz(x);(((x)))=yyyyyyyy;xyzxyzxy=z;xxx=(y(z))x;z";
        int[] whole = {15, 16, 18, 28, 29, 30, 31, 32, 33, 34, 35, 46, 57, 58};
        for (int length = 0; length <= 60; length++) {
            String text = right.substring(0, length);
            boolean isWhole = isWhole(text);
            int laws = text.split(";").length;
            due("addLaws() of " + text, add(new LawWorlds(), text), isWhole ? laws : -100 - length);
        }
        for (int length : whole) {
            due("whole, 1: " + length, add(new LawWorlds(), right.substring(0, length)) > 0 ? 1 : 0,
                isWhole(right.substring(0, length)) ? 1 : 0);
        }
        LawWorlds x = new LawWorlds();
        due("the empty text", x.addLaws(), -100);
        x.type('x');
        due("of one character", x.addLaws(), -101);
        x.clearText();
        due("emptied again", x.addLaws(), -100);
    }

    /** Of a beginning of a text without a fault: whether a law ends with it. */
    private static boolean isWhole(String text) {
        String law = text.substring(text.lastIndexOf(';') + 1);
        long open = law.chars().filter(c -> c == '(').count();
        long closed = law.chars().filter(c -> c == ')').count();
        return law.contains("=") && !law.endsWith("=") && open == closed;
    }

    // ---- history

    private static void fourStates() {
        says("A history of at most 4 states is kept; when one more is recorded, the oldest one is dropped");
        for (int acts = 0; acts <= 10; acts++) {
            LawWorlds x = new LawWorlds();
            for (int act = 1; act <= acts; act++) {
                due("take", x.take(3, act), act - 1);
                due("count(4)", x.count(4), Math.min(act, 4));
            }
            int left = Math.min(acts, 4);
            for (int state = acts - 1; left > 0; state--) {
                left--;
                due("undo() to the state " + state, x.undo(), left);
                due("code then", x.world(1), state);
                due("size then", x.world(0), state == 0 ? 2 : 3);
            }
            due("undo() beyond the oldest one", x.undo(), NONE);
            due("code then", x.world(1), Math.max(0, acts - 4));
        }
    }

    private static void undoLatest() {
        says("undo() removes and restores the latest one.");
        LawWorlds x = new LawWorlds();
        due("empty at first", x.undo(), NONE);
        due("count(4)", x.count(4), 0);
        x.take(2, 1);
        x.take(2, 2);
        due("undo()", x.undo(), 1);
        due("world(1)", x.world(1), 1);
        x.take(2, 3);
        due("the one undone is gone", x.count(4), 2);
        due("undo()", x.undo(), 1);
        due("world(1)", x.world(1), 1);
        due("undo()", x.undo(), 0);
        due("world(1)", x.world(1), 0);
        due("undo()", x.undo(), NONE);
        // Full, emptied, and full again.
        for (int round = 0; round < 3; round++) {
            for (int act = 1; act <= 5; act++) {
                x.take(3, 100 * round + act);
            }
            for (int left = 3; left >= 0; left--) {
                due("undo(), round " + round, x.undo(), left);
                due("world(1)", x.world(1), 100 * round + left + 1);
            }
            due("undo() of the empty one", x.undo(), NONE);
        }
    }

    private static int act(LawWorlds x, int act) {
        switch (act) {
            case 0:
                return x.take(1, 0);
            case 1:
                return x.put(0, 0, 1);
            case 2:
                return x.rename(0, 1);
            case 3:
                return x.mirror();
            case 4:
                return x.addLaws();
            case 5:
                return x.removeLaw(0);
            case 6:
                return x.turnLaw(1, true);
            case 7:
                return x.refute(0);
            default:
                return x.restore();
        }
    }

    private static void eachAct() {
        says("Each call of a method that is described as an act, and returns no error and not NONE, records the state that was "
            + "before it.");
        for (int act = 0; act < 9; act++) {
            LawWorlds x = with(3, 5000, "xy=x;y=z");
            x.turnLaw(1, false);
            x.keep();
            x.undo();
            x.undo();
            x.undo();
            x.restore();
            due("states before the act " + act, x.count(4), 1);
            due("the act " + act + " is no error, 1", act(x, act) >= 0 ? 1 : 0, 1);
            due("states after the act " + act, x.count(4), 2);
            due("undo()", x.undo(), 1);
            due("size", x.world(0), 3);
            due("code", x.world(1), 5000);
            due("laws", x.count(0), 2);
            due("laws on", x.count(1), 1);
            due("the first law", x.law(0, 3) * 10 + x.law(0, 0), 31);
            due("the second law", x.law(1, 3) * 10 + x.law(1, 0), 60);
        }
        LawWorlds x = with(2, 0, "x=y;x=z;z=z");
        due("addLaws() is one act", x.count(4), 1);
        due("undo() takes back all of them", x.undo(), 0);
        due("count(0)", x.count(0), 0);
        x = with(2, 0, "xy=yx");
        int code = x.refute(0);
        due("refute() at its world already", x.refute(0), code);
        due("is an act", x.count(4), 3);
        x.keep();
        due("restore() of the same state", x.restore(), 1);
        due("is an act", x.count(4), 4);
    }

    private static void noAct() {
        says("Each call of a method that is described as an act");
        LawWorlds x = with(3, 77, "xy=x;xx=x");
        x.keep();
        x.take(2, 1);
        x.undo();
        int states = x.count(4);
        x.type('x');
        x.keep();
        x.clearText();
        x.of(0, 0);
        for (int what = 0; what <= 7; what++) {
            x.world(what);
            x.law(0, what);
            x.count(what);
            x.closed(what);
        }
        x.side(0, true, 0);
        x.witness(0, 0, 0);
        x.model(3, 0);
        x.models(3, true);
        x.paired(3, 0, 0);
        x.alike(3, 0, 1);
        due("count(4) after calls that are no acts", x.count(4), states);
        due("size", x.world(0), 3);
        due("code", x.world(1), 77);
        due("undo()", x.undo(), states - 1);
        due("count(0)", x.count(0), 0);
    }

    private static void oneSnapshot() {
        says("There is one snapshot, empty at first.");
        LawWorlds x = new LawWorlds();
        due("restore()", x.restore(), NONE);
        x.take(2, 5);
        x.undo();
        due("restore() after an act and undo", x.restore(), NONE);
        due("keep()", x.keep(), 0);
        due("restore()", x.restore(), 0);
        add(x, "x=y;x=z");
        x.take(3, 19682);
        due("keep()", x.keep(), 2);
        add(x, "y=z");
        x.take(1, 0);
        due("restore() of the second one", x.restore(), 2);
        due("size", x.world(0), 3);
        due("code", x.world(1), 19682);
        x.take(2, 0);
        due("restore() once more, it stays", x.restore(), 2);
        due("code", x.world(1), 19682);
        for (int i = 0; i < 4; i++) {
            x.undo();
        }
        due("restore() after undo, it stays", x.restore(), 2);
        due("code", x.world(1), 19682);
        due("another object's", new LawWorlds().restore(), NONE);
    }

    private static void stateIsAllElse() {
        says("A state is everything but the text, the history and the snapshot.");
        LawWorlds x = with(3, 9, "x=y;xx=y");
        x.turnLaw(1, false);
        x.keep();
        write(x, "z=z;z=");
        x.undo();
        due("text after undo()", x.count(5), 6);
        due("its fault", x.addLaws(), -106);
        x.restore();
        due("text after restore()", x.count(5), 6);
        x.type('z');
        due("addLaws()", x.addLaws(), 2);
        due("law(2, 3)", x.law(2, 3), 4);
        due("history after restore() and addLaws()", x.count(4), 4);
        x.keep();
        due("history after keep()", x.count(4), 4);
        x.undo();
        x.undo();
        due("restore() of what was kept before undo()", x.restore(), 4);
        due("size", x.world(0), 3);
        due("code", x.world(1), 9);
        due("law(1, 0)", x.law(1, 0), 0);
        due("law(3, 0)", x.law(3, 0), 1);
        due("history", x.count(4), 3);
    }

    /** What is told of five laws, the first and the last of which are off. */
    private static void fiveLaws(LawWorlds x, String when) {
        int[] letters = {2, 3, 4, 5, 6};
        int[] sets = {3, 6, 1, 7, 4};
        due("laws " + when, x.count(0), 5);
        due("laws on " + when, x.count(1), 3);
        for (int law = 0; law < 5; law++) {
            due("on, law " + law + " " + when, x.law(law, 0), law == 0 || law == 4 ? 0 : 1);
            due("letters, law " + law + " " + when, x.law(law, 2), letters[law]);
            due("set, law " + law + " " + when, x.law(law, 3), sets[law]);
        }
    }

    private static void stateHasFiveLaws() {
        says("A state is everything but the text, the history and the snapshot.");
        LawWorlds x = with(3, 9, "x=y;yz=z;xxx=x;xyz=yx;zzz=zzz");
        x.turnLaw(0, false);
        x.turnLaw(4, false);
        x.keep();
        fiveLaws(x, "at first");
        for (int left = 4; left >= 0; left--) {
            x.removeLaw(left);
            due("laws left", x.count(0), left);
            x.restore();
            fiveLaws(x, "after restore()");
            x.undo();
            due("laws left", x.count(0), left);
        }
        due("five new ones", add(x, "x=x;x=x;x=x;x=x;x=x"), 5);
        x.restore();
        x.turnLaw(0, true);
        x.removeLaw(4);
        add(x, "y=y");
        x.undo();
        x.undo();
        x.undo();
        fiveLaws(x, "after undo()");
    }

    // ---- errors

    private static void orderOfChecks() {
        says("Where several errors can apply, the order of the @return line is the order of the checks.");
        LawWorlds x = with(2, 0, "x=x");
        due("rename: UNKNOWN before BAD_VALUE", x.rename(2, 2), UNKNOWN);
        due("rename: UNKNOWN before BAD_VALUE", x.rename(-1, -1), UNKNOWN);
        due("law: UNKNOWN before BAD_VALUE", x.law(1, 7), UNKNOWN);
        due("law: UNKNOWN before BAD_VALUE", x.law(-1, -1), UNKNOWN);
        due("side: UNKNOWN before BAD_VALUE", x.side(1, true, 8), UNKNOWN);
        due("side: UNKNOWN before BAD_VALUE", x.side(-1, false, -1), UNKNOWN);
        due("witness: UNKNOWN before BAD_VALUE", x.witness(1, -1, 0), UNKNOWN);
        due("witness: UNKNOWN before BAD_VALUE", x.witness(-1, 0, 3), UNKNOWN);
        due("witness: BAD_VALUE before NONE", x.witness(0, 0, 3), BAD);
        due("witness: BAD_VALUE before NONE", x.witness(0, 12, -1), BAD);
        due("model: BAD_VALUE before NONE", x.model(4, Integer.MAX_VALUE), BAD);
        due("paired: BAD_VALUE before UNKNOWN", x.paired(0, 0, 1), BAD);
        due("paired: BAD_VALUE before UNKNOWN", x.paired(2, 16, -1), BAD);
        due("paired: BAD_VALUE before UNKNOWN", x.paired(4, -1, 5), BAD);
        write(x, "x=y;x=y;x=y;x=y;x=y;");
        due("addLaws: the fault before FULL", x.addLaws(), -120);
        write(x, "x=y;x=y;x=y;x=y;x=y;?");
        due("addLaws: the fault before FULL", x.addLaws(), -120);
    }

    private static void noneIsNoError() {
        says("NONE is no error; it is returned only if no error applies.");
        LawWorlds x = with(2, 0, "x=x");
        due("take: this world already, but of no size", x.take(4, 0), BAD);
        due("put: as it is already, but of no thing", x.put(0, 2, 0), UNKNOWN);
        due("rename: the same world, but UNKNOWN", x.rename(2, 0), UNKNOWN);
        due("rename: the same world, but BAD_VALUE", x.rename(1, 1), BAD);
        due("turnLaw: no law", x.turnLaw(1, true), UNKNOWN);
        due("refute: no law", x.refute(1), UNKNOWN);
        due("law: no case, but no law", x.law(1, 6), UNKNOWN);
        due("witness: none, but no law", x.witness(1, 0, 0), UNKNOWN);
        due("witness: none, but BAD_VALUE", x.witness(0, -1, 0), BAD);
        due("model: none, but BAD_VALUE", x.model(0, 9999), BAD);
    }

    private static void constants() {
        says("The constants: `UNKNOWN = -1`: There is no such thing or law.");
        due("UNKNOWN", LawWorlds.UNKNOWN, UNKNOWN);
        says("`BAD_VALUE = -2`: Another argument is out of range.");
        due("BAD_VALUE", LawWorlds.BAD_VALUE, BAD);
        says("`FULL = -3`: There is no more room.");
        due("FULL", LawWorlds.FULL, FULL);
        says("`NOT_POSSIBLE = -4`: This is not possible.");
        due("NOT_POSSIBLE", LawWorlds.NOT_POSSIBLE, -4);
        says("`NONE = -5`: There is no such thing; not an error.");
        due("NONE", LawWorlds.NONE, NONE);
    }
}
