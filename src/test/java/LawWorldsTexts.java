import java.util.ArrayList;
import java.util.List;

// Texts of laws, held against a second reader: all short ones, and long ones at the limits.
public final class LawWorldsTexts {
    private static final String SIGNS = "xz()=;";
    private static final int SHORT = 6;
    private static final int LONG_TEXTS = 20_000;
    private static final int WORLD = 12345;

    private static LawWorlds asked = new LawWorlds();
    private static int calls = 0;
    private static int seed = 20261120;
    private static int wrong = 0;
    private static int allowed = 0;

    private static void due(String what, int got, int want) {
        if (got != want) {
            wrong++;
            if (wrong < 50) {
                System.out.println(what + " answered " + got + ", due is " + want);
            }
        }
    }

    public static void main(String[] args) {
        shortTexts("");
        named();
        for (int i = 0; i < LONG_TEXTS; i++) {
            check(longText());
        }
        due("some texts were allowed: " + allowed, allowed > 1000 ? 1 : 0, 1);
        System.out.println(wrong == 0 ? "all texts are read as due" : wrong + " answers are wrong");
        if (wrong != 0) {
            System.exit(1);
        }
    }

    private static void shortTexts(String text) {
        check(text);
        for (int i = 0; i < SIGNS.length() && text.length() < SHORT; i++) {
            shortTexts(text + SIGNS.charAt(i));
        }
    }

    /** Places that the document names, with the fault that is due written out. */
    private static void named() {
        fault("", 0);
        fault("xxxxxxxxx=x", 8);
        fault("xxxxxxxx=xxxxxxxxx", 17);
        fault("xxxxxxxx=xxxxxxxx;xxxxxxxxx", 26);
        fault("(xxxx)(xxxx)x=x", 12);
        fault("x=(xxxxxxxxx)", 11);
        fault("xxxxxxxx(x)=x", 9);
        fault("xxxxxxxx(((x", 11);
        fault("xxxxxxxx((((", 11);
        fault("xxxxxxxx()", 9);
        fault("xxxxxxxx(", 9);
        fault("((((x))))=x", 3);
        fault("(((x)))(((y)))=(((z)(x))((y)))", -1);
        fault("(((x)))(((y)))=(((z)(x))((y)(", 29);
        fault("(((x)))(((y)))=(((z)(x)(((y)", 24);
        fault("()", 1);
        fault("x=)", 2);
        fault("x==x", 2);
        fault("x=y=z", 3);
        fault("x=y;", 4);
        fault("x=y;;", 4);
        fault(";x=y", 0);
        fault("=x", 0);
        fault("x", 1);
        fault("(x=y)", 2);
        fault("x=(y;z=x)", 4);
        fault("X=y", 0);
        fault("x=w", 2);
        fault("x={", 2);
        fault("x= y", 2);
        fault("x=y\u0000", 3);
        fault("x=\u0178", 2);
        fault("x=" + "(((y)))".repeat(8), -1);
        fault("x=" + "(((y)))".repeat(8) + "(x", 59);
        fault("x=" + "(((y)))".repeat(8) + "((", 60);
    }

    private static void fault(String text, int place) {
        due("the second reader on \"" + text + "\"", new Reader(text).read(), place);
        check(text);
    }

    /** A walk that goes on with what is allowed, mostly; half of them end where the text may end. */
    private static String longText() {
        String signs = below(2) == 0 ? "xyz((())=;" : "xyzxyz()=;";
        int length = 20 + below(41);
        StringBuilder text = new StringBuilder();
        int whole = 0;
        for (int tries = 0; tries < 600 && text.length() < length; tries++) {
            text.append(signs.charAt(below(signs.length())));
            int place = new Reader(text.toString()).read();
            whole = place < 0 ? text.length() : whole;
            boolean isWrong = place >= 0 && place < text.length();
            if (isWrong && below(100) != 0) {
                text.setLength(text.length() - 1);
            } else if (isWrong && below(2) == 0) {
                return text.toString();
            }
        }
        return below(2) == 0 ? text.toString() : text.substring(0, whole);
    }

    private static int below(int bound) {
        seed = seed * 1664525 + 1013904223;
        return (seed >>> 8) % bound;
    }

    private static void check(String text) {
        if (calls + text.length() + 200 > 512) {
            asked = new LawWorlds();
            calls = 0;
        }
        asked.clearText();
        for (int i = 0; i < text.length(); i++) {
            asked.type(text.charAt(i));
        }
        calls += text.length() + 2;
        Reader reader = new Reader(text);
        int place = reader.read();
        int laws = reader.laws.size();
        int want = place >= 0 ? -100 - place : laws > 5 ? LawWorlds.FULL : laws;
        due("addLaws() on \"" + text + "\"", asked.addLaws(), want);
        if (want > 0) {
            allowed++;
            sides(text, reader.laws);
        }
    }

    /** What comes of the sides tells how they were put together. */
    private static void sides(String text, List<Part[]> laws) {
        asked.take(3, WORLD);
        calls++;
        for (int law = 0; law < laws.size(); law++) {
            for (int number = 1; number < 27; number += 8) {
                int[] stand = {number % 3, number / 3 % 3, number / 9};
                for (int right = 0; right < 2; right++) {
                    due("side(" + law + ", " + (right == 1) + ", " + number + ") of \"" + text + "\"",
                        asked.side(law, right == 1, number), laws.get(law)[right].thing(stand));
                    calls++;
                }
            }
        }
        asked.undo();
        asked.undo();
        due("laws behind \"" + text + "\"", asked.count(0), 0);
        calls += 3;
    }

    /** A letter, or two parts put together. */
    private static final class Part {
        private final int letter;
        private final Part left;
        private final Part right;

        Part(int letter, Part left, Part right) {
            this.letter = letter;
            this.left = left;
            this.right = right;
        }

        int thing(int[] stand) {
            if (left == null) {
                return stand[letter];
            }
            int exponent = 3 * left.thing(stand) + right.thing(stand);
            int rest = WORLD;
            for (int i = 0; i < exponent; i++) {
                rest /= 3;
            }
            return rest % 3;
        }
    }

    /** Reads by going down into the brackets; the reader of the class goes along the text. */
    private static final class Reader {
        private final List<Part[]> laws = new ArrayList<>();
        private final String text;
        private int place;
        private int letters;
        private boolean isWrong;

        Reader(String text) {
            this.text = text;
        }

        /** The fault, or -1. */
        int read() {
            do {
                Part left = wholeSide();
                eat('=');
                Part right = wholeSide();
                laws.add(new Part[] {left, right});
            } while (!isWrong && place < text.length() && eat(';'));
            return isWrong ? place : -1;
        }

        private boolean isNext(String signs) {
            return place < text.length() && signs.indexOf(text.charAt(place)) >= 0;
        }

        private boolean eat(char sign) {
            isWrong = isWrong || !isNext(String.valueOf(sign));
            place += isWrong ? 0 : 1;
            return !isWrong;
        }

        private Part wholeSide() {
            letters = 0;
            return side(0);
        }

        private Part side(int depth) {
            Part all = null;
            do {
                Part one = part(depth);
                all = all == null ? one : new Part(-1, all, one);
            } while (!isWrong && isNext("xyz("));
            return all;
        }

        private Part part(int depth) {
            if (isWrong) {
                return null;
            }
            if (isNext("(") && depth < 3) {
                eat('(');
                Part inside = side(depth + 1);
                eat(')');
                return inside;
            }
            if (isNext("xyz") && letters < 8) {
                letters++;
                place++;
                return new Part(text.charAt(place - 1) - 'x', null, null);
            }
            isWrong = true;
            return null;
        }
    }
}
