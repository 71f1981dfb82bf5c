import java.util.ArrayDeque;
import java.util.ArrayList;
import java.util.Comparator;
import java.util.Deque;
import java.util.HashMap;
import java.util.List;
import java.util.Map;
import java.util.TreeSet;

// Long runs of calls, each answer held against that of a slow second program written from the document alone.
public final class LawWorldsLongRuns {
    private static final int RUNS = 240;
    private static final int CALLS = 512;
    private static final int UNKNOWN = -1;
    private static final int BAD = -2;
    private static final int FULL = -3;
    private static final int NONE = -5;

    private static final String[] KNOWN = {
        "xy=yx", "(xy)z=x(yz)", "xyz=x(yz)", "xx=x", "xy=x", "xy=y", "x=y", "x=x", "xy=zx", "xx=yy", "x(xy)=y",
        "(yx)x=y", "xy=yx;xx=x", "x(yz)=(xy)(xz)", "xyzx=xzyx", "x(xy)=xy", "(xy)(zx)=(x(yz))x", "x(x(xx))=x",
        "(((x)))=x;y=yy", "xyzxyzxy=zyxzyxzy", "x((xy)(yz))=y", "xyx=x;xx=x", "z=zz", "xx=yx;xy=xz", "xxy=y",
    };

    private static long seed;

    private static int below(int bound) {
        seed = seed * 6364136223846793005L + 1442695040888963407L;
        return (int) ((seed >>> 33) % bound);
    }

    public static void main(String[] args) {
        int wrong = 0;
        for (int run = 0; run < RUNS && wrong < 5; run++) {
            seed = 1000003L * run + 17;
            wrong += run(run);
        }
        System.out.println(wrong == 0 ? "all long runs are as due" : wrong + " long runs went wrong");
        if (wrong != 0) {
            System.exit(1);
        }
    }

    private static int run(int run) {
        LawWorlds x = new LawWorlds();
        Slow slow = new Slow();
        Deque<Character> toType = new ArrayDeque<>();
        for (int call = 1; call <= CALLS; call++) {
            int[] answers = toType.isEmpty() ? step(x, slow, toType) : typeOne(x, slow, toType.poll());
            if (answers[0] != answers[1]) {
                System.out.println("run " + run + ", call " + call + ", " + told + ": answered " + answers[0]
                    + ", due is " + answers[1]);
                return 1;
            }
        }
        return 0;
    }

    private static String told = "";

    private static int[] typeOne(LawWorlds x, Slow slow, char character) {
        told = "type " + (int) character;
        return new int[] {x.type(character), slow.type(character)};
    }

    private static int[] both(String call, int got, int want) {
        told = call;
        return new int[] {got, want};
    }

    /** A number from 0 to bound - 1 mostly, now and then one that is out of range. */
    private static int near(int bound) {
        int kind = below(24);
        if (kind == 0) {
            return -1 - below(3);
        }
        if (kind == 1) {
            return bound + below(3);
        }
        if (kind == 2 && below(4) == 0) {
            return below(2) == 0 ? Integer.MIN_VALUE : Integer.MAX_VALUE;
        }
        return below(Math.max(bound, 1));
    }

    private static int nearSize() {
        int size = near(4);
        return size == 0 && below(4) > 0 ? 3 : size;
    }

    private static int nearCode(int size) {
        return near(size == 3 ? 19683 : size == 2 ? 16 : 1);
    }

    private static int[] step(LawWorlds x, Slow slow, Deque<Character> toType) {
        int kind = below(100);
        if (kind < 40) {
            return act(x, slow, toType);
        }
        int a = near(slow.size());
        int b = near(slow.size());
        int law = near(slow.lawCount());
        if (kind < 44) {
            return both("of " + a + " " + b, x.of(a, b), slow.of(a, b));
        }
        if (kind < 52) {
            int what = near(8);
            return both("world " + what, x.world(what), slow.world(what));
        }
        if (kind < 56) {
            int set = near(1 << slow.size());
            return both("closed " + set, x.closed(set), slow.closed(set));
        }
        if (kind < 66) {
            int what = near(7);
            return both("law " + law + " " + what, x.law(law, what), slow.law(law, what));
        }
        if (kind < 70) {
            boolean right = below(2) == 0;
            int number = near(slow.size() * slow.size() * slow.size());
            return both("side " + law + " " + right + " " + number,
                x.side(law, right, number), slow.side(law, right, number));
        }
        if (kind < 79) {
            int rank = near(12);
            int what = near(3);
            return both("witness " + law + " " + rank + " " + what,
                x.witness(law, rank, what), slow.witness(law, rank, what));
        }
        return tellMore(x, slow, kind, law);
    }

    private static int[] tellMore(LawWorlds x, Slow slow, int kind, int law) {
        int size = nearSize();
        int code = nearCode(size);
        if (kind < 84) {
            int rank = near(below(2) == 0 ? 12 : Math.max(1, slow.models(size, false)));
            return both("model " + size + " " + rank, x.model(size, rank), slow.model(size, rank));
        }
        if (kind < 88) {
            boolean all = below(2) == 0;
            return both("models " + size + " " + all, x.models(size, all), slow.models(size, all));
        }
        if (kind < 92) {
            return both("paired " + size + " " + code + " " + law,
                x.paired(size, code, law), slow.paired(size, code, law));
        }
        if (kind < 95) {
            int other = below(2) == 0 ? nearCode(size) : slow.someAlike(size, code, below(6));
            return both("alike " + size + " " + code + " " + other,
                x.alike(size, code, other), slow.alike(size, code, other));
        }
        int what = near(6);
        return both("count " + what, x.count(what), slow.count(what));
    }

    private static int[] act(LawWorlds x, Slow slow, Deque<Character> toType) {
        int kind = below(40);
        int a = near(slow.size());
        int b = near(slow.size());
        int law = near(slow.lawCount());
        if (kind < 5) {
            int size = nearSize();
            int code = below(3) == 0 ? below(3) : nearCode(size);
            return both("take " + size + " " + code, x.take(size, code), slow.take(size, code));
        }
        if (kind < 9) {
            int value = near(slow.size());
            return both("put " + a + " " + b + " " + value, x.put(a, b, value), slow.put(a, b, value));
        }
        if (kind < 12) {
            return both("rename " + a + " " + b, x.rename(a, b), slow.rename(a, b));
        }
        if (kind < 14) {
            return both("mirror", x.mirror(), slow.mirror());
        }
        if (kind < 20) {
            return both("addLaws", x.addLaws(), slow.addLaws());
        }
        if (kind < 23) {
            return both("removeLaw " + law, x.removeLaw(law), slow.removeLaw(law));
        }
        if (kind < 27) {
            boolean on = below(2) == 0;
            return both("turnLaw " + law + " " + on, x.turnLaw(law, on), slow.turnLaw(law, on));
        }
        if (kind < 29) {
            return both("refute " + law, x.refute(law), slow.refute(law));
        }
        if (kind < 33) {
            for (char character : someText().toCharArray()) {
                toType.add(character);
            }
            if (below(5) > 0) {
                return both("clearText", x.clearText(), slow.clearText());
            }
        }
        if (kind < 36) {
            return both("undo", x.undo(), slow.undo());
        }
        return kind < 38 ? both("keep", x.keep(), slow.keep()) : both("restore", x.restore(), slow.restore());
    }

    private static String someText() {
        int kind = below(10);
        if (kind < 5) {
            return KNOWN[below(KNOWN.length)];
        }
        StringBuilder text = new StringBuilder();
        int laws = 1 + below(2);
        for (int i = 0; i < laws; i++) {
            text.append(i == 0 ? "" : ";").append(someSide(0)).append("=").append(someSide(0));
        }
        if (kind < 8) {
            return text.toString();
        }
        String signs = "xyz()=;xyz()=; aX";
        int changes = 1 + below(2);
        for (int i = 0; i < changes; i++) {
            int place = below(text.length() + 1);
            char sign = signs.charAt(below(signs.length()));
            if (below(2) == 0) {
                text.insert(place, sign);
            } else if (place < text.length()) {
                text.deleteCharAt(place);
            }
        }
        return text.toString();
    }

    private static String someSide(int depth) {
        StringBuilder side = new StringBuilder();
        int parts = 1 + below(depth == 0 ? 4 : 3);
        for (int i = 0; i < parts; i++) {
            if (depth < 4 && below(4) == 0) {
                side.append("(").append(someSide(depth + 1)).append(")");
            } else {
                side.append((char) ('x' + below(3)));
            }
        }
        return side.toString();
    }

    // ---- the second program

    private static final class Side {
        private final int letter;
        private final Side first;
        private final Side second;

        Side(int letter, Side first, Side second) {
            this.letter = letter;
            this.first = first;
            this.second = second;
        }

        int thing(int[][] table, int[] letters) {
            return first == null ? letters[letter] : table[first.thing(table, letters)][second.thing(table, letters)];
        }

        String letters() {
            return first == null ? "xyz".substring(letter, letter + 1) : first.letters() + second.letters();
        }
    }

    private record Placed(String text, Side left, Side right, boolean on) {
        boolean broken(int[][] table, int number) {
            int n = table.length;
            int[] letters = {number % n, number / n % n, number / (n * n)};
            return left.thing(table, letters) != right.thing(table, letters);
        }

        List<Integer> brokenCases(int[][] table) {
            List<Integer> cases = new ArrayList<>();
            for (int i = 0; i < table.length * table.length * table.length; i++) {
                if (broken(table, i)) {
                    cases.add(i);
                }
            }
            return cases;
        }
    }

    private record State(int[][] table, List<Placed> laws) {
    }

    private record World(int size, int code, int[][] table, int alikes) {
    }

    private record Witness(World world, int broken) {
    }

    private static final class Fault extends RuntimeException {
        private static final long serialVersionUID = 1L;
        private final int index;

        Fault(int index) {
            this.index = index;
        }
    }

    private static final class Parser {
        private final String text;
        private int place;
        private int letters;

        Parser(String text) {
            this.text = text;
        }

        private char next() {
            return place < text.length() ? text.charAt(place) : '\u0000';
        }

        List<Placed> laws() {
            List<Placed> laws = new ArrayList<>();
            laws.add(law());
            while (place < text.length()) {
                place++;
                laws.add(law());
            }
            return laws;
        }

        private Placed law() {
            int from = place;
            letters = 0;
            Side left = side(0);
            if (next() != '=') {
                throw new Fault(place);
            }
            place++;
            letters = 0;
            Side right = side(0);
            if (place < text.length() && next() != ';') {
                throw new Fault(place);
            }
            return new Placed(text.substring(from, place), left, right, true);
        }

        private Side side(int depth) {
            Side side = part(depth);
            while (next() == '(' || next() >= 'x' && next() <= 'z') {
                side = new Side(-1, side, part(depth));
            }
            return side;
        }

        private Side part(int depth) {
            char sign = next();
            if (sign >= 'x' && sign <= 'z' && letters < 8) {
                letters++;
                place++;
                return new Side(sign - 'x', null, null);
            }
            if (sign != '(' || depth == 3) {
                throw new Fault(place);
            }
            place++;
            Side side = side(depth + 1);
            if (next() != ')') {
                throw new Fault(place);
            }
            place++;
            return side;
        }
    }

    private static final class Slow {
        private static final int[][][] PERMUTATIONS = {
            {}, {{0}}, {{0, 1}, {1, 0}}, {{0, 1, 2}, {0, 2, 1}, {1, 0, 2}, {1, 2, 0}, {2, 0, 1}, {2, 1, 0}},
        };
        private static final List<World> PLAIN = plainWorlds();
        private static final Map<String, int[]> BROKEN = new HashMap<>();

        private State now = new State(new int[2][2], List.of());
        private final List<State> history = new ArrayList<>();
        private State snapshot;
        private String text = "";

        private static int codes(int size) {
            return size == 1 ? 1 : size == 2 ? 16 : 19683;
        }

        private static boolean isCode(int size, int code) {
            return size >= 1 && size <= 3 && code >= 0 && code < codes(size);
        }

        private static int[][] table(int size, int code) {
            int[][] table = new int[size][size];
            int rest = code;
            for (int a = 0; a < size; a++) {
                for (int b = 0; b < size; b++) {
                    table[a][b] = rest % size;
                    rest /= size;
                }
            }
            return table;
        }

        private static int code(int[][] table) {
            int size = table.length;
            int code = 0;
            int weight = 1;
            for (int[] row : table) {
                for (int value : row) {
                    code += value * weight;
                    weight *= size;
                }
            }
            return code;
        }

        private static int[][] renamed(int[][] table, int[] names) {
            int size = table.length;
            int[][] renamed = new int[size][size];
            for (int a = 0; a < size; a++) {
                for (int b = 0; b < size; b++) {
                    renamed[names[a]][names[b]] = names[table[a][b]];
                }
            }
            return renamed;
        }

        private static TreeSet<Integer> alikes(int size, int code) {
            TreeSet<Integer> codes = new TreeSet<>();
            for (int[] names : PERMUTATIONS[size]) {
                codes.add(code(renamed(table(size, code), names)));
            }
            return codes;
        }

        private static List<World> plainWorlds() {
            List<World> worlds = new ArrayList<>();
            for (int size = 1; size <= 3; size++) {
                for (int code = 0; code < codes(size); code++) {
                    TreeSet<Integer> alikes = alikes(size, code);
                    if (alikes.first() == code) {
                        worlds.add(new World(size, code, table(size, code), alikes.size()));
                    }
                }
            }
            return worlds;
        }

        private static int[] brokenCounts(Placed law) {
            return BROKEN.computeIfAbsent(law.text(), key -> {
                int[] counts = new int[PLAIN.size()];
                for (int i = 0; i < counts.length; i++) {
                    counts[i] = law.brokenCases(PLAIN.get(i).table()).size();
                }
                return counts;
            });
        }

        private boolean keepsOthers(int world, int leftOut) {
            for (int i = 0; i < now.laws().size(); i++) {
                Placed law = now.laws().get(i);
                if (i != leftOut && law.on() && brokenCounts(law)[world] > 0) {
                    return false;
                }
            }
            return true;
        }

        private List<Witness> witnesses(int law) {
            List<Witness> found = new ArrayList<>();
            for (int i = 0; i < PLAIN.size(); i++) {
                int broken = brokenCounts(now.laws().get(law))[i];
                if (broken > 0 && keepsOthers(i, law)) {
                    found.add(new Witness(PLAIN.get(i), broken));
                }
            }
            found.sort(Comparator.comparingInt(Witness::broken).thenComparingInt(w -> w.world().size())
                .thenComparingInt(w -> w.world().code()));
            return found.subList(0, Math.min(12, found.size()));
        }

        private List<World> told(int size) {
            List<World> found = new ArrayList<>();
            for (int i = 0; i < PLAIN.size(); i++) {
                if (PLAIN.get(i).size() == size && keepsOthers(i, -1)) {
                    found.add(PLAIN.get(i));
                }
            }
            return found;
        }

        int size() {
            return now.table().length;
        }

        int lawCount() {
            return now.laws().size();
        }

        private int code() {
            return code(now.table());
        }

        private boolean isThing(int a) {
            return a >= 0 && a < size();
        }

        private boolean isLaw(int law) {
            return law >= 0 && law < lawCount();
        }

        private void become(State next) {
            history.add(now);
            if (history.size() > 4) {
                history.remove(0);
            }
            now = next;
        }

        private int becomeTable(int[][] table) {
            if (code(table) == code()) {
                return NONE;
            }
            become(new State(table, now.laws()));
            return code();
        }

        int take(int size, int code) {
            if (!isCode(size, code)) {
                return BAD;
            }
            int previous = code();
            if (size == size() && code == previous) {
                return NONE;
            }
            become(new State(table(size, code), now.laws()));
            return previous;
        }

        int put(int a, int b, int value) {
            if (!isThing(a) || !isThing(b) || !isThing(value)) {
                return UNKNOWN;
            }
            int[][] table = table(size(), code());
            table[a][b] = value;
            return becomeTable(table);
        }

        int rename(int a, int b) {
            if (!isThing(a) || !isThing(b)) {
                return UNKNOWN;
            }
            if (a == b) {
                return BAD;
            }
            int[] names = {0, 1, 2};
            names[a] = b;
            names[b] = a;
            return becomeTable(renamed(now.table(), names));
        }

        int mirror() {
            int[][] table = new int[size()][size()];
            for (int a = 0; a < size(); a++) {
                for (int b = 0; b < size(); b++) {
                    table[a][b] = now.table()[b][a];
                }
            }
            return becomeTable(table);
        }

        int addLaws() {
            List<Placed> more;
            try {
                more = new Parser(text).laws();
            } catch (Fault fault) {
                return -100 - fault.index;
            }
            if (more.size() + lawCount() > 5) {
                return FULL;
            }
            List<Placed> laws = new ArrayList<>(now.laws());
            laws.addAll(more);
            become(new State(now.table(), laws));
            return more.size();
        }

        int removeLaw(int law) {
            if (!isLaw(law)) {
                return UNKNOWN;
            }
            List<Placed> laws = new ArrayList<>(now.laws());
            laws.remove(law);
            become(new State(now.table(), laws));
            return lawCount();
        }

        int turnLaw(int law, boolean on) {
            if (!isLaw(law)) {
                return UNKNOWN;
            }
            Placed old = now.laws().get(law);
            if (old.on() == on) {
                return NONE;
            }
            List<Placed> laws = new ArrayList<>(now.laws());
            laws.set(law, new Placed(old.text(), old.left(), old.right(), on));
            become(new State(now.table(), laws));
            return count(1);
        }

        int refute(int law) {
            if (!isLaw(law)) {
                return UNKNOWN;
            }
            List<Witness> found = witnesses(law);
            if (found.isEmpty()) {
                return NONE;
            }
            become(new State(found.get(0).world().table(), now.laws()));
            return code();
        }

        int type(char character) {
            if (text.length() == 60) {
                return FULL;
            }
            text += character;
            return text.length();
        }

        int clearText() {
            int length = text.length();
            text = "";
            return length;
        }

        int undo() {
            if (history.isEmpty()) {
                return NONE;
            }
            now = history.remove(history.size() - 1);
            return history.size();
        }

        int keep() {
            snapshot = now;
            return lawCount();
        }

        int restore() {
            if (snapshot == null) {
                return NONE;
            }
            become(snapshot);
            return lawCount();
        }

        int of(int a, int b) {
            return isThing(a) && isThing(b) ? now.table()[a][b] : UNKNOWN;
        }

        int world(int what) {
            int[][] table = now.table();
            int stay = 0;
            int left = 0;
            int right = 0;
            for (int a = 0; a < size(); a++) {
                boolean isLeft = true;
                boolean isRight = true;
                for (int b = 0; b < size(); b++) {
                    isLeft &= table[a][b] == b;
                    isRight &= table[b][a] == b;
                }
                stay += table[a][a] == a ? 1 << a : 0;
                left += isLeft ? 1 << a : 0;
                right += isRight ? 1 << a : 0;
            }
            boolean holds = now.laws().stream().allMatch(law -> !law.on() || law.brokenCases(table).isEmpty());
            TreeSet<Integer> alikes = alikes(size(), code());
            int[] answers = {size(), code(), alikes.first(), alikes.size(), stay, left, right, holds ? 1 : 0};
            return what >= 0 && what < answers.length ? answers[what] : BAD;
        }

        /** The least of all sets that are closed and have these things. */
        int closed(int set) {
            if (set < 0 || set >= 1 << size()) {
                return BAD;
            }
            int least = (1 << size()) - 1;
            for (int other = 0; other < 1 << size(); other++) {
                if ((other & set) == set && isClosed(other) && Integer.bitCount(other) < Integer.bitCount(least)) {
                    least = other;
                }
            }
            return least;
        }

        private boolean isClosed(int set) {
            for (int a = 0; a < size(); a++) {
                for (int b = 0; b < size(); b++) {
                    boolean asked = (set & 1 << a) != 0 && (set & 1 << b) != 0;
                    if (asked && (set & 1 << now.table()[a][b]) == 0) {
                        return false;
                    }
                }
            }
            return true;
        }

        int law(int law, int what) {
            if (!isLaw(law)) {
                return UNKNOWN;
            }
            Placed asked = now.laws().get(law);
            List<Integer> broken = asked.brokenCases(now.table());
            String letters = asked.left().letters() + asked.right().letters();
            int set = (letters.contains("x") ? 1 : 0) + (letters.contains("y") ? 2 : 0) + (letters.contains("z") ? 4 : 0);
            int told = witnesses(law).size();
            int first = broken.isEmpty() ? NONE : broken.get(0);
            int[] answers = {asked.on() ? 1 : 0, broken.size(), letters.length(), set, told == 0 ? 1 : 0, told, first};
            return what >= 0 && what < answers.length ? answers[what] : BAD;
        }

        int side(int law, boolean right, int number) {
            if (!isLaw(law)) {
                return UNKNOWN;
            }
            int n = size();
            if (number < 0 || number >= n * n * n) {
                return BAD;
            }
            Placed asked = now.laws().get(law);
            int[] letters = {number % n, number / n % n, number / (n * n)};
            return (right ? asked.right() : asked.left()).thing(now.table(), letters);
        }

        int witness(int law, int rank, int what) {
            if (!isLaw(law)) {
                return UNKNOWN;
            }
            if (rank < 0 || what < 0 || what > 2) {
                return BAD;
            }
            List<Witness> found = witnesses(law);
            if (rank >= found.size()) {
                return NONE;
            }
            Witness witness = found.get(rank);
            return what == 0 ? witness.world().size() : what == 1 ? witness.world().code() : witness.broken();
        }

        int model(int size, int rank) {
            if (size < 1 || size > 3 || rank < 0) {
                return BAD;
            }
            List<World> told = told(size);
            return rank < told.size() ? told.get(rank).code() : NONE;
        }

        int models(int size, boolean all) {
            if (size < 1 || size > 3) {
                return BAD;
            }
            List<World> told = told(size);
            return all ? told.stream().mapToInt(World::alikes).sum() : told.size();
        }

        /** Works the pair out as a world of its own. */
        int paired(int size, int code, int law) {
            if (!isCode(size, code)) {
                return BAD;
            }
            if (!isLaw(law)) {
                return UNKNOWN;
            }
            int[][] other = table(size, code);
            int things = size() * size;
            int[][] pair = new int[things][things];
            for (int a = 0; a < things; a++) {
                for (int b = 0; b < things; b++) {
                    pair[a][b] = now.table()[a / size][b / size] * size + other[a % size][b % size];
                }
            }
            return now.laws().get(law).brokenCases(pair).size();
        }

        int someAlike(int size, int code, int number) {
            if (!isCode(size, code)) {
                return 0;
            }
            Integer[] codes = alikes(size, code).toArray(new Integer[0]);
            return codes[number % codes.length];
        }

        int alike(int size, int one, int other) {
            if (!isCode(size, one) || !isCode(size, other)) {
                return BAD;
            }
            return alikes(size, one).contains(other) ? 1 : 0;
        }

        int count(int what) {
            int on = 0;
            int hold = 0;
            int follow = 0;
            for (int i = 0; i < lawCount(); i++) {
                Placed law = now.laws().get(i);
                on += law.on() ? 1 : 0;
                hold += law.brokenCases(now.table()).isEmpty() ? 1 : 0;
                follow += what == 3 && witnesses(i).isEmpty() ? 1 : 0;
            }
            int[] answers = {lawCount(), on, hold, follow, history.size(), text.length()};
            return what >= 0 && what < answers.length ? answers[what] : BAD;
        }
    }
}
