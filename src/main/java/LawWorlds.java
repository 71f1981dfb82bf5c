/** Laws in small worlds; ../shared/DOC.md says what each call does and returns. */
public final class LawWorlds {
    public static final int UNKNOWN = -1;
    public static final int BAD_VALUE = -2;
    public static final int FULL = -3;
    public static final int NOT_POSSIBLE = -4;
    public static final int NONE = -5;

    private static final int MOST_THINGS = 3;
    private static final int MOST_LAWS = 5;
    private static final int MOST_STATES = 4;
    private static final int MOST_TYPED = 60;
    private static final int MOST_TOLD = 12;
    private static final int MOST_LETTERS = 8;
    private static final int MOST_BRACKETS = 3;
    private static final int FAULT_BASE = -100;
    private static final int NO_FAULT = -1;
    private static final int NO_LAW = -1;

    /** Up to likeness there are 1, 10 and 3330 worlds of one, two and three things. */
    private static final int PLAIN_WORLDS = 3341;

    /** The steps 0, 1 and 2 of a law bring a letter, this one puts the last two things together. */
    private static final int PUT = 3;

    private final State now = new State();
    private final History history = new History();
    private final Shelf shelf = new Shelf();
    private final Bench bench = new Bench();
    private final Search search = new Search();
    private final Reader reader = new Reader();
    private final char[] text = new char[MOST_TYPED];
    private int typed;

    public LawWorlds() {
    }

    // ---- the world of now

    public int take(int size, int code) {
        if (!Codes.isCode(size, code)) {
            return BAD_VALUE;
        }
        if (size == now.size && code == now.code) {
            return NONE;
        }
        int previous = now.code;
        history.record(now);
        now.size = size;
        now.code = code;
        return previous;
    }

    public int put(int a, int b, int value) {
        if (!isThing(a) || !isThing(b) || !isThing(value)) {
            return UNKNOWN;
        }
        int change = value - Codes.product(now.size, now.code, a, b);
        return changeTo(now.code + change * Codes.power(now.size, now.size * a + b));
    }

    public int rename(int a, int b) {
        if (!isThing(a) || !isThing(b)) {
            return UNKNOWN;
        }
        if (a == b) {
            return BAD_VALUE;
        }
        return changeTo(Codes.renamed(now.size, now.code, Codes.exchange(a, b)));
    }

    public int mirror() {
        return changeTo(Codes.mirrored(now.size, now.code));
    }

    private boolean isThing(int thing) {
        return thing >= 0 && thing < now.size;
    }

    private int changeTo(int code) {
        if (code == now.code) {
            return NONE;
        }
        history.record(now);
        now.code = code;
        return code;
    }

    // ---- laws

    public int addLaws() {
        int fault = reader.read(text, typed);
        if (fault != NO_FAULT) {
            return FAULT_BASE - fault;
        }
        if (now.lawCount + reader.lawCount > MOST_LAWS) {
            return FULL;
        }
        history.record(now);
        for (int i = 0; i < reader.lawCount; i++) {
            now.add(shelf.bring(reader, i, now, history));
        }
        return reader.lawCount;
    }

    public int removeLaw(int law) {
        if (!now.hasLaw(law)) {
            return UNKNOWN;
        }
        history.record(now);
        now.remove(law);
        return now.lawCount;
    }

    public int turnLaw(int law, boolean on) {
        if (!now.hasLaw(law)) {
            return UNKNOWN;
        }
        if (now.on[law] == on) {
            return NONE;
        }
        history.record(now);
        now.on[law] = on;
        return now.onCount();
    }

    public int refute(int law) {
        if (!now.hasLaw(law)) {
            return UNKNOWN;
        }
        if (search.findWitnesses(now, law) == 0) {
            return NONE;
        }
        history.record(now);
        now.size = search.witnessNumber(0, 0);
        now.code = search.witnessNumber(0, 1);
        return now.code;
    }

    // ---- texts

    public int type(char character) {
        if (typed >= MOST_TYPED) {
            return FULL;
        }
        text[typed] = character;
        typed++;
        return typed;
    }

    public int clearText() {
        int length = typed;
        typed = 0;
        return length;
    }

    // ---- history

    public int undo() {
        return history.goBack(now) ? history.stateCount : NONE;
    }

    public int keep() {
        history.takeSnapshot(now);
        return now.lawCount;
    }

    public int restore() {
        if (!history.hasSnapshot) {
            return NONE;
        }
        history.record(now);
        history.bringSnapshot(now);
        return now.lawCount;
    }

    // ---- what is told

    public int of(int a, int b) {
        if (!isThing(a) || !isThing(b)) {
            return UNKNOWN;
        }
        return Codes.product(now.size, now.code, a, b);
    }

    public int world(int what) {
        switch (what) {
            case 0:
                return now.size;
            case 1:
                return now.code;
            case 2:
                return Codes.plainCode(now.size, now.code);
            case 3:
                return Codes.alikeCount(now.size, now.code);
            case 4:
                return Codes.stayingThings(now.size, now.code);
            case 5:
                return Codes.leftLeavers(now.size, now.code);
            case 6:
                return Codes.leftLeavers(now.size, Codes.mirrored(now.size, now.code));
            case 7:
                return countHolding(true) == now.onCount() ? 1 : 0;
            default:
                return BAD_VALUE;
        }
    }

    public int closed(int set) {
        if (set < 0 || set >= 1 << now.size) {
            return BAD_VALUE;
        }
        int grown = set;
        for (int round = 0; round < now.size; round++) {
            grown = Codes.withProducts(now.size, now.code, grown);
        }
        return grown;
    }

    public int law(int law, int what) {
        Law asked = now.lawAt(law);
        if (asked == null) {
            return UNKNOWN;
        }
        switch (what) {
            case 0:
                return now.on[law] ? 1 : 0;
            case 1:
                return Integer.bitCount(brokenNow(asked));
            case 2:
                return asked.letterCount;
            case 3:
                return asked.letterSet;
            case 4:
                return search.findWitnesses(now, law) == 0 ? 1 : 0;
            case 5:
                return search.findWitnesses(now, law);
            case 6:
                return firstCase(brokenNow(asked));
            default:
                return BAD_VALUE;
        }
    }

    public int side(int law, boolean right, int number) {
        Law asked = now.lawAt(law);
        if (asked == null) {
            return UNKNOWN;
        }
        if (number < 0 || number >= now.size * now.size * now.size) {
            return BAD_VALUE;
        }
        bench.open(now.size, now.code);
        bench.run(asked);
        return bench.thingOf(right, number);
    }

    public int witness(int law, int rank, int what) {
        if (!now.hasLaw(law)) {
            return UNKNOWN;
        }
        if (rank < 0 || what < 0 || what > 2) {
            return BAD_VALUE;
        }
        search.findWitnesses(now, law);
        return search.witnessNumber(rank, what);
    }

    public int model(int size, int rank) {
        if (!Codes.isSize(size) || rank < 0) {
            return BAD_VALUE;
        }
        return search.modelCode(now, size, rank);
    }

    public int models(int size, boolean all) {
        if (!Codes.isSize(size)) {
            return BAD_VALUE;
        }
        return search.countModels(now, size, all);
    }

    public int paired(int size, int code, int law) {
        if (!Codes.isCode(size, code)) {
            return BAD_VALUE;
        }
        Law asked = now.lawAt(law);
        if (asked == null) {
            return UNKNOWN;
        }
        // The sides are the same in the pair just where they are the same in both worlds.
        int things = now.size * size;
        int same = sameCases(now.size, now.code, asked) * sameCases(size, code, asked);
        return things * things * things - same;
    }

    public int alike(int size, int one, int other) {
        if (!Codes.isCode(size, one) || !Codes.isCode(size, other)) {
            return BAD_VALUE;
        }
        return Codes.plainCode(size, one) == Codes.plainCode(size, other) ? 1 : 0;
    }

    public int count(int what) {
        switch (what) {
            case 0:
                return now.lawCount;
            case 1:
                return now.onCount();
            case 2:
                return countHolding(false);
            case 3:
                return countFollowing();
            case 4:
                return history.stateCount;
            case 5:
                return typed;
            default:
                return BAD_VALUE;
        }
    }

    private int brokenNow(Law asked) {
        bench.open(now.size, now.code);
        bench.run(asked);
        return bench.brokenCases();
    }

    private int sameCases(int size, int code, Law asked) {
        bench.open(size, code);
        bench.run(asked);
        return size * size * size - Integer.bitCount(bench.brokenCases());
    }

    /** The lowest bit of a set of cases. */
    private static int firstCase(int cases) {
        return cases == 0 ? NONE : Integer.bitCount((cases & -cases) - 1);
    }

    private int countHolding(boolean onlyOn) {
        int holding = 0;
        for (int i = 0; i < now.lawCount; i++) {
            Law asked = now.lawAt(i);
            if (asked != null && (now.on[i] || !onlyOn) && brokenNow(asked) == 0) {
                holding++;
            }
        }
        return holding;
    }

    private int countFollowing() {
        int following = 0;
        for (int i = 0; i < now.lawCount; i++) {
            if (search.findWitnesses(now, i) == 0) {
                following++;
            }
        }
        return following;
    }

    /** What can be said of a world from its size and code alone. */
    private static final class Codes {
        private static final int[] POWERS_OF_THREE = {1, 3, 9, 27, 81, 243, 729, 2187, 6561};

        /**
         * All ways to rename three things, three new names each. Those of fewer things come first,
         * and the exchange of a and b stands at a + b.
         */
        private static final int[] RENAMINGS = {0, 1, 2, 1, 0, 2, 2, 1, 0, 0, 2, 1, 1, 2, 0, 2, 0, 1};

        static boolean isSize(int size) {
            return size >= 1 && size <= MOST_THINGS;
        }

        static boolean isCode(int size, int code) {
            return isSize(size) && code >= 0 && code < worldCount(size);
        }

        static int worldCount(int size) {
            return size == 3 ? 19683 : size == 2 ? 16 : 1;
        }

        static int renamingCount(int size) {
            return size == 3 ? 6 : size == 2 ? 2 : 1;
        }

        static int power(int size, int exponent) {
            if (exponent < 0 || exponent >= POWERS_OF_THREE.length) {
                return 1;
            }
            return size == 3 ? POWERS_OF_THREE[exponent] : size == 2 ? 1 << exponent : 1;
        }

        static int product(int size, int code, int a, int b) {
            if (!isSize(size)) {
                return 0;
            }
            int weight = power(size, size * a + b);
            return weight == 0 ? 0 : code / weight % size;
        }

        static int exchange(int a, int b) {
            return a + b;
        }

        static int newName(int renaming, int thing) {
            int place = MOST_THINGS * renaming + thing;
            return place >= 0 && place < RENAMINGS.length ? RENAMINGS[place] : thing;
        }

        static int renamed(int size, int code, int renaming) {
            if (!isSize(size)) {
                return code;
            }
            int image = 0;
            int rest = code;
            for (int a = 0; a < size; a++) {
                int row = size * newName(renaming, a);
                for (int b = 0; b < size; b++) {
                    int value = newName(renaming, rest % size);
                    rest = rest / size;
                    image += value * power(size, row + newName(renaming, b));
                }
            }
            return image;
        }

        static int mirrored(int size, int code) {
            int image = 0;
            for (int a = 0; a < size; a++) {
                for (int b = 0; b < size; b++) {
                    image += product(size, code, a, b) * power(size, size * b + a);
                }
            }
            return image;
        }

        static int plainCode(int size, int code) {
            int least = code;
            for (int i = 1; i < renamingCount(size); i++) {
                least = Math.min(least, renamed(size, code, i));
            }
            return least;
        }

        /** Each of the worlds that are alike comes of equally many renamings. */
        static int alikeCount(int size, int code) {
            int same = 1;
            for (int i = 1; i < renamingCount(size); i++) {
                if (renamed(size, code, i) == code) {
                    same++;
                }
            }
            return same == 0 ? 0 : renamingCount(size) / same;
        }

        static int stayingThings(int size, int code) {
            int set = 0;
            for (int a = 0; a < size; a++) {
                if (product(size, code, a, a) == a) {
                    set |= 1 << a;
                }
            }
            return set;
        }

        static int leftLeavers(int size, int code) {
            int set = 0;
            for (int a = 0; a < size; a++) {
                int left = 0;
                for (int b = 0; b < size; b++) {
                    if (product(size, code, a, b) == b) {
                        left++;
                    }
                }
                if (left == size) {
                    set |= 1 << a;
                }
            }
            return set;
        }

        static boolean isIn(int set, int member) {
            return (set >> member & 1) == 1;
        }

        static int withProducts(int size, int code, int set) {
            int grown = set;
            for (int a = 0; a < size; a++) {
                for (int b = 0; b < size; b++) {
                    if (isIn(set, a) && isIn(set, b)) {
                        grown |= 1 << product(size, code, a, b);
                    }
                }
            }
            return grown;
        }
    }

    /** A law as steps: those of the left side, then those of the right one, operands first. */
    private static final class Law {
        private static final int MOST_STEPS = 2 * (2 * MOST_LETTERS - 1);

        final int[] steps = new int[MOST_STEPS];
        int stepCount;
        int letterCount;
        int letterSet;

        /** In how many cases it is broken in each plain world; made when it is first asked for. */
        byte[] brokenIn;
        boolean isCounted;

        static boolean isLetter(int step) {
            return step >= 0 && step < PUT;
        }

        void become(int[] source, int from, int to) {
            stepCount = 0;
            letterCount = 0;
            letterSet = 0;
            isCounted = false;
            int end = Math.min(to, source.length);
            for (int i = Math.max(from, 0); i < end && stepCount < MOST_STEPS; i++) {
                steps[stepCount] = source[i];
                stepCount++;
                if (isLetter(source[i])) {
                    letterCount++;
                    letterSet |= 1 << source[i];
                }
            }
        }

        boolean hasSteps(int[] source, int from, int to) {
            if (from < 0 || to > source.length || stepCount != to - from) {
                return false;
            }
            for (int i = 0; i < stepCount; i++) {
                if (steps[i] != source[from + i]) {
                    return false;
                }
            }
            return true;
        }

        int brokenAt(int index) {
            if (brokenIn == null || index < 0 || index >= brokenIn.length) {
                return 0;
            }
            return brokenIn[index];
        }
    }

    /** All that undo and the snapshot bring back. */
    private static final class State {
        final Law[] laws = new Law[MOST_LAWS];
        final boolean[] on = new boolean[MOST_LAWS];
        int lawCount;
        int size = 2;
        int code;

        void copyFrom(State other) {
            size = other.size;
            code = other.code;
            lawCount = other.lawCount;
            for (int i = 0; i < MOST_LAWS; i++) {
                laws[i] = other.laws[i];
                on[i] = other.on[i];
            }
        }

        boolean hasLaw(int number) {
            return number >= 0 && number < lawCount && number < MOST_LAWS;
        }

        Law lawAt(int number) {
            return hasLaw(number) ? laws[number] : null;
        }

        void add(Law added) {
            if (added != null && lawCount < MOST_LAWS) {
                laws[lawCount] = added;
                on[lawCount] = true;
                lawCount++;
            }
        }

        void remove(int number) {
            if (!hasLaw(number)) {
                return;
            }
            lawCount--;
            for (int i = number; i < lawCount; i++) {
                laws[i] = laws[i + 1];
                on[i] = on[i + 1];
            }
        }

        int onCount() {
            int turnedOn = 0;
            for (int i = 0; i < lawCount; i++) {
                if (on[i]) {
                    turnedOn++;
                }
            }
            return turnedOn;
        }

        boolean uses(Law asked) {
            for (int i = 0; i < lawCount; i++) {
                if (laws[i] == asked) {
                    return true;
                }
            }
            return false;
        }
    }

    /** The states that were, the oldest first, and the snapshot. */
    private static final class History {
        private final State[] past = {new State(), new State(), new State(), new State()};
        private final State snapshot = new State();
        int stateCount;
        boolean hasSnapshot;

        void record(State present) {
            if (stateCount >= MOST_STATES) {
                dropOldest();
            }
            past[stateCount].copyFrom(present);
            stateCount++;
        }

        /** The oldest one's object is used again, so that no call makes a new one. */
        private void dropOldest() {
            State oldest = past[0];
            for (int i = 1; i < MOST_STATES; i++) {
                past[i - 1] = past[i];
            }
            past[MOST_STATES - 1] = oldest;
            stateCount--;
        }

        boolean goBack(State present) {
            if (stateCount == 0) {
                return false;
            }
            stateCount--;
            present.copyFrom(past[stateCount]);
            return true;
        }

        void takeSnapshot(State present) {
            snapshot.copyFrom(present);
            hasSnapshot = true;
        }

        void bringSnapshot(State present) {
            present.copyFrom(snapshot);
        }

        boolean uses(Law asked) {
            for (int i = 0; i < stateCount; i++) {
                if (past[i].uses(asked)) {
                    return true;
                }
            }
            return hasSnapshot && snapshot.uses(asked);
        }
    }

    /**
     * Room for as many laws as all states together can have. A law that no state has stays until
     * its place is wanted: what was counted of it is there still if it is added again.
     */
    private static final class Shelf {
        private static final int PLACES = MOST_LAWS * (MOST_STATES + 2);

        private final Law[] places = new Law[PLACES];

        Shelf() {
            for (int i = 0; i < PLACES; i++) {
                places[i] = new Law();
            }
        }

        Law bring(Reader reader, int number, State present, History history) {
            int from = reader.lawStart(number);
            int to = reader.lawEnd(number);
            for (int i = 0; i < PLACES; i++) {
                if (places[i].hasSteps(reader.steps, from, to)) {
                    return places[i];
                }
            }
            for (int i = 0; i < PLACES; i++) {
                if (!present.uses(places[i]) && !history.uses(places[i])) {
                    places[i].become(reader.steps, from, to);
                    return places[i];
                }
            }
            return null;
        }
    }

    /** Reads a text of laws. */
    private static final class Reader {
        /** A character brings at most a letter and a putting together. */
        private static final int MOST_STEPS = 2 * MOST_TYPED;

        final int[] steps = new int[MOST_STEPS];
        int lawCount;
        private final int[] ends = new int[MOST_TYPED];
        private final boolean[] isBegun = new boolean[MOST_BRACKETS + 1];
        private int stepCount;
        private int depth;
        private int letters;
        private boolean isRight;

        /** Returns the fault of the text, or NO_FAULT. */
        int read(char[] text, int length) {
            lawCount = 0;
            stepCount = 0;
            depth = 0;
            beginSide(false);
            for (int i = 0; i < length && i < text.length; i++) {
                if (!accept(text[i])) {
                    return i;
                }
            }
            return endLaw() ? NO_FAULT : length;
        }

        int lawStart(int number) {
            return number <= 0 ? 0 : lawEnd(number - 1);
        }

        int lawEnd(int number) {
            return number >= 0 && number < lawCount ? ends[number] : 0;
        }

        private boolean accept(char character) {
            if (character >= 'x' && character <= 'z') {
                return addLetter(character - 'x');
            }
            if (character == '(') {
                return openBracket();
            }
            if (character == ')') {
                return closeBracket();
            }
            if (character == '=') {
                return endLeft();
            }
            return character == ';' && endLaw();
        }

        private void beginSide(boolean right) {
            isRight = right;
            letters = 0;
            isBegun[0] = false;
        }

        private boolean isSideWhole() {
            return depth == 0 && isBegun[0];
        }

        private boolean addLetter(int letter) {
            if (letters >= MOST_LETTERS) {
                return false;
            }
            letters++;
            addStep(letter);
            endPart();
            return true;
        }

        private boolean openBracket() {
            if (depth >= MOST_BRACKETS) {
                return false;
            }
            depth++;
            isBegun[depth] = false;
            return true;
        }

        private boolean closeBracket() {
            if (depth <= 0 || !isBegun[depth]) {
                return false;
            }
            depth--;
            endPart();
            return true;
        }

        private boolean endLeft() {
            if (isRight || !isSideWhole()) {
                return false;
            }
            beginSide(true);
            return true;
        }

        private boolean endLaw() {
            if (!isRight || !isSideWhole() || lawCount >= ends.length) {
                return false;
            }
            ends[lawCount] = stepCount;
            lawCount++;
            beginSide(false);
            return true;
        }

        /** Each part but the first is put to all that stands before it within its brackets. */
        private void endPart() {
            if (isBegun[depth]) {
                addStep(PUT);
            }
            isBegun[depth] = true;
        }

        private void addStep(int step) {
            if (stepCount < MOST_STEPS) {
                steps[stepCount] = step;
                stepCount++;
            }
        }
    }

    /**
     * Works a law out in all cases of a world at once. A set of cases is a number whose bits are
     * the cases; what comes of a part of a law is told by three sets: those of the cases in which
     * the thing 0, 1 or 2 comes of it.
     */
    private static final class Bench {
        /** The left side, a part of the right one that waits at each depth, and the one put to it. */
        private static final int MOST_PARTS = 1 + (MOST_BRACKETS + 1) + 1;

        private final int[] table = new int[MOST_THINGS * MOST_THINGS];
        private final int[] letters = new int[3 * MOST_THINGS];
        private final int[] parts = new int[MOST_PARTS * MOST_THINGS];
        private final int[] joined = new int[MOST_THINGS];
        private int size;

        void open(int newSize, int code) {
            if (!Codes.isSize(newSize) || code < 0) {
                return;
            }
            if (size != newSize) {
                size = newSize;
                fillLetters();
            }
            int rest = code;
            for (int i = 0; i < newSize * newSize; i++) {
                table[i] = rest % newSize;
                rest = rest / newSize;
            }
        }

        private void fillLetters() {
            for (int i = 0; i < letters.length; i++) {
                letters[i] = 0;
            }
            int cases = size * size * size;
            for (int i = 0; i < cases && size > 0; i++) {
                letters[i % size] |= 1 << i;
                letters[MOST_THINGS + i / size % size] |= 1 << i;
                letters[2 * MOST_THINGS + i / (size * size)] |= 1 << i;
            }
        }

        /** Afterwards the left side is the part 0 and the right side the part 1. */
        void run(Law law) {
            int count = 0;
            for (int i = 0; i < law.stepCount; i++) {
                int step = law.steps[i];
                if (step == PUT && count >= 2) {
                    count--;
                    join(MOST_THINGS * (count - 1), MOST_THINGS * count);
                } else if (Law.isLetter(step) && count < MOST_PARTS) {
                    for (int thing = 0; thing < MOST_THINGS; thing++) {
                        parts[MOST_THINGS * count + thing] = letters[MOST_THINGS * step + thing];
                    }
                    count++;
                }
            }
        }

        /** Puts together the parts that stand from left and from right on, in place of the left one. */
        private void join(int left, int right) {
            for (int a = 0; a < size; a++) {
                int cases = parts[left + a];
                for (int b = 0; b < size && cases != 0; b++) {
                    joined[table[size * a + b]] |= cases & parts[right + b];
                }
            }
            for (int thing = 0; thing < MOST_THINGS; thing++) {
                parts[left + thing] = joined[thing];
                joined[thing] = 0;
            }
        }

        int brokenCases() {
            int same = 0;
            for (int thing = 0; thing < MOST_THINGS; thing++) {
                same |= parts[thing] & parts[MOST_THINGS + thing];
            }
            int all = (1 << size * size * size) - 1;
            return all & ~same;
        }

        int thingOf(boolean right, int number) {
            int part = right ? MOST_THINGS : 0;
            for (int thing = 1; thing < MOST_THINGS; thing++) {
                if (Codes.isIn(parts[part + thing], number)) {
                    return thing;
                }
            }
            return 0;
        }
    }

    /** All worlds that have a plain code as their code, by size and code. */
    private static final class PlainWorlds {
        /** In a long. */
        private static final int BITS = 64;

        private final int[] codes = new int[PLAIN_WORLDS];
        private final byte[] alikeCounts = new byte[PLAIN_WORLDS];
        private final int[] starts = new int[MOST_THINGS + 2];
        private int listed;

        /** Not done by the constructor, since many objects are never asked for a model. */
        void list() {
            if (listed > 0) {
                return;
            }
            long[] seen = new long[Codes.worldCount(MOST_THINGS) / BITS + 1];
            for (int size = 1; size <= MOST_THINGS; size++) {
                starts[size] = listed;
                for (int i = 0; i < seen.length; i++) {
                    seen[i] = 0;
                }
                for (int code = 0; code < Codes.worldCount(size); code++) {
                    if (!isIn(seen, code)) {
                        add(size, code, seen);
                    }
                }
            }
            starts[MOST_THINGS + 1] = listed;
        }

        private void add(int size, int code, long[] seen) {
            if (listed >= PLAIN_WORLDS) {
                return;
            }
            codes[listed] = code;
            int alikes = 0;
            for (int i = 0; i < Codes.renamingCount(size); i++) {
                int image = Codes.renamed(size, code, i);
                int place = image / BITS;
                if (place >= 0 && place < seen.length && !isIn(seen, image)) {
                    seen[place] |= 1L << image % BITS;
                    alikes++;
                }
            }
            alikeCounts[listed] = (byte) alikes;
            listed++;
        }

        private static boolean isIn(long[] seen, int code) {
            int place = code / BITS;
            return place >= 0 && place < seen.length && (seen[place] & 1L << code % BITS) != 0;
        }

        int start(int size) {
            return Codes.isSize(size) ? starts[size] : 0;
        }

        int end(int size) {
            return Codes.isSize(size) ? starts[size + 1] : 0;
        }

        int sizeAt(int index) {
            return index >= starts[3] ? 3 : index >= starts[2] ? 2 : 1;
        }

        int codeAt(int index) {
            return index >= 0 && index < PLAIN_WORLDS ? codes[index] : 0;
        }

        int alikesAt(int index) {
            return index >= 0 && index < PLAIN_WORLDS ? alikeCounts[index] : 0;
        }
    }

    /** Looks for models and witnesses among the plain worlds. */
    private static final class Search {
        private final Bench bench = new Bench();
        private final PlainWorlds plainWorlds = new PlainWorlds();
        private final Law[] demanded = new Law[MOST_LAWS];
        private int demandedCount;
        private final int[] told = new int[MOST_TOLD];
        private final int[] toldBroken = new int[MOST_TOLD];
        private int toldCount;

        int countModels(State state, int size, boolean all) {
            plainWorlds.list();
            demand(state, NO_LAW);
            int found = 0;
            for (int i = plainWorlds.start(size); i < plainWorlds.end(size); i++) {
                if (isModel(i)) {
                    found += all ? plainWorlds.alikesAt(i) : 1;
                }
            }
            return found;
        }

        int modelCode(State state, int size, int rank) {
            plainWorlds.list();
            demand(state, NO_LAW);
            int before = 0;
            for (int i = plainWorlds.start(size); i < plainWorlds.end(size); i++) {
                if (isModel(i)) {
                    if (before == rank) {
                        return plainWorlds.codeAt(i);
                    }
                    before++;
                }
            }
            return NONE;
        }

        /** Returns how many are told. */
        int findWitnesses(State state, int number) {
            toldCount = 0;
            Law law = state.lawAt(number);
            if (law == null) {
                return 0;
            }
            plainWorlds.list();
            demand(state, number);
            countBroken(law);
            for (int i = 0; i < PLAIN_WORLDS; i++) {
                int broken = law.brokenAt(i);
                if (broken > 0 && isAmongFirst(broken) && isModel(i)) {
                    tell(i, broken);
                }
            }
            return toldCount;
        }

        /** The size (0), the code (1) or the broken cases (2) of one that was found; NONE without it. */
        int witnessNumber(int rank, int what) {
            if (rank < 0 || rank >= toldCount) {
                return NONE;
            }
            if (what == 2) {
                return toldBroken[rank];
            }
            return what == 1 ? plainWorlds.codeAt(told[rank]) : plainWorlds.sizeAt(told[rank]);
        }

        /** Sets the laws that a model has to keep: all that are on, but for the one left out. */
        private void demand(State state, int leftOut) {
            demandedCount = 0;
            for (int i = 0; i < state.lawCount; i++) {
                Law law = state.lawAt(i);
                if (law != null && i != leftOut && state.on[i] && demandedCount < MOST_LAWS) {
                    countBroken(law);
                    demanded[demandedCount] = law;
                    demandedCount++;
                }
            }
        }

        private void countBroken(Law law) {
            if (law.isCounted) {
                return;
            }
            if (law.brokenIn == null) {
                law.brokenIn = new byte[PLAIN_WORLDS];
            }
            for (int i = 0; i < PLAIN_WORLDS; i++) {
                bench.open(plainWorlds.sizeAt(i), plainWorlds.codeAt(i));
                bench.run(law);
                law.brokenIn[i] = (byte) Integer.bitCount(bench.brokenCases());
            }
            law.isCounted = true;
        }

        private boolean isModel(int index) {
            for (int i = 0; i < demandedCount; i++) {
                Law law = demanded[i];
                if (law != null && law.brokenAt(index) > 0) {
                    return false;
                }
            }
            return true;
        }

        private boolean isAmongFirst(int broken) {
            return toldCount < MOST_TOLD || broken < toldBroken[MOST_TOLD - 1];
        }

        /** Those of equally many broken cases stay in the order in which they come. */
        private void tell(int index, int broken) {
            int place = toldCount < MOST_TOLD ? toldCount : MOST_TOLD - 1;
            while (place > 0 && toldBroken[place - 1] > broken) {
                told[place] = told[place - 1];
                toldBroken[place] = toldBroken[place - 1];
                place--;
            }
            told[place] = index;
            toldBroken[place] = broken;
            toldCount = Math.min(toldCount + 1, MOST_TOLD);
        }
    }
}
