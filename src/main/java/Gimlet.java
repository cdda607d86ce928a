import java.util.NoSuchElementException;

/** A small prover for the algebra of sets. */
public final class Gimlet {

    private static final int LETTERS = 4;
    private static final int REGIONS = 16;
    private static final int ALL_REGIONS = 0xFFFF;
    private static final int MOST_TERMS = 120;
    private static final int MOST_SIZE = 40;
    private static final int MOST_ASSUMPTIONS = 6;
    private static final int MOST_MODEL_ELEMENTS = 6;
    private static final int MOST_TRIED_ELEMENTS = 3;

    /** Stands for a term, an assumption, a cube or a region that there is not. */
    private static final int NONE = -1;
    /** Stands for a rule or a symbol that there is not. */
    private static final char BLANK = ' ';

    /** Every rewriting ends far below this bound, since a term on the way has 40 symbols at most. */
    private static final int STEP_BOUND = 1000000;

    private final Terms known = new Terms();
    private final Rewriter rewriter = new Rewriter();
    private final Cubes cubes = new Cubes();
    private final Statements stated = new Statements();
    private final Search search = new Search();

    public Gimlet() {
    }

    // ---- terms

    public int letter(int letter) throws IllegalArgumentException, IllegalStateException {
        checkLetter(letter);
        return madeOrThrow(known.make((char) ('a' + letter), NONE, NONE));
    }

    public int empty() throws IllegalStateException {
        return madeOrThrow(known.make('0', NONE, NONE));
    }

    public int universe() throws IllegalStateException {
        return madeOrThrow(known.make('1', NONE, NONE));
    }

    public int complement(int term) throws IndexOutOfBoundsException, IllegalStateException {
        checkTerm(term);
        return madeOrThrow(known.make('C', term, NONE));
    }

    public int union(int left, int right) throws IndexOutOfBoundsException, IllegalStateException {
        return makePair('U', left, right);
    }

    public int intersection(int left, int right) throws IndexOutOfBoundsException, IllegalStateException {
        return makePair('I', left, right);
    }

    public int difference(int left, int right) throws IndexOutOfBoundsException, IllegalStateException {
        return makePair('D', left, right);
    }

    public int symmetric(int left, int right) throws IndexOutOfBoundsException, IllegalStateException {
        return makePair('S', left, right);
    }

    public int terms() {
        return known.howMany();
    }

    public int size(int term) throws IndexOutOfBoundsException {
        checkTerm(term);
        return known.sizeOf(term);
    }

    public char symbol(int term, int index) throws IndexOutOfBoundsException, NoSuchElementException {
        checkTerm(term);
        if (index < 0 || index >= known.sizeOf(term)) {
            throw new NoSuchElementException("the term has no such symbol");
        }
        return known.symbolOf(term, index);
    }

    private int makePair(char head, int left, int right) {
        checkTerm(left);
        checkTerm(right);
        return madeOrThrow(known.make(head, left, right));
    }

    private int madeOrThrow(int term) {
        if (term == NONE) {
            throw new IllegalStateException("the term can't be made");
        }
        return term;
    }

    private void checkTerm(int term) {
        if (!known.isKnown(term)) {
            throw new IndexOutOfBoundsException("there is no such term");
        }
    }

    private void checkLetter(int letter) {
        if (letter < 0 || letter >= LETTERS) {
            throw new IllegalArgumentException("a letter is between 0 and 3");
        }
    }

    private void checkRegion(int region) {
        if (region < 0 || region >= REGIONS) {
            throw new IllegalArgumentException("a region is between 0 and 15");
        }
    }

    // ---- regions

    public int regions(int term) throws IndexOutOfBoundsException {
        checkTerm(term);
        return Integer.bitCount(known.coverOf(term));
    }

    public boolean covers(int term, int region) throws IndexOutOfBoundsException, IllegalArgumentException {
        checkTerm(term);
        checkRegion(region);
        return isIn(region, known.coverOf(term));
    }

    public boolean coversByTerm(int term, int region) throws IndexOutOfBoundsException, IllegalArgumentException {
        checkTerm(term);
        checkRegion(region);
        return known.reaches(term, region);
    }

    public boolean isEqual(int left, int right) throws IndexOutOfBoundsException {
        checkTerm(left);
        checkTerm(right);
        return known.coverOf(left) == known.coverOf(right);
    }

    private static boolean isIn(int region, int regions) {
        return (regions >> region & 1) == 1;
    }

    // ---- normal forms

    public char rule(int term) throws IndexOutOfBoundsException, NoSuchElementException {
        checkTerm(term);
        rewriter.load(known, term);
        return ruleOrThrow();
    }

    public int step(int term) throws IndexOutOfBoundsException, NoSuchElementException,
            UnsupportedOperationException, IllegalStateException {
        checkTerm(term);
        rewriter.load(known, term);
        ruleOrThrow();
        rewriteOrThrow();
        return madeOrThrow(known.makeAll(rewriter.text()));
    }

    public int steps(int term) throws IndexOutOfBoundsException {
        checkTerm(term);
        rewriter.load(known, term);
        int made = 0;
        while (made < STEP_BOUND && rewriter.seek() && rewriter.rewrite()) {
            made++;
        }
        return made;
    }

    public int normalForm(int term) throws IndexOutOfBoundsException, UnsupportedOperationException,
            IllegalStateException {
        checkTerm(term);
        rewriter.load(known, term);
        for (int made = 0; made < STEP_BOUND && rewriter.seek(); made++) {
            rewriteOrThrow();
        }
        return madeOrThrow(known.makeAll(rewriter.text()));
    }

    public int primes(int term) throws IndexOutOfBoundsException {
        checkTerm(term);
        cubes.join(known.coverOf(term));
        return cubes.countPrimes();
    }

    public int primesByTrying(int term) throws IndexOutOfBoundsException {
        checkTerm(term);
        return cubes.countByTrying(known.coverOf(term));
    }

    public char prime(int term, int index, int letter) throws IndexOutOfBoundsException, NoSuchElementException,
            IllegalArgumentException {
        checkTerm(term);
        cubes.join(known.coverOf(term));
        int cube = cubes.primeAt(index);
        if (cube == NONE) {
            throw new NoSuchElementException("the term has no such prime implicant");
        }
        checkLetter(letter);
        return Cubes.tells(cube, letter);
    }

    private char ruleOrThrow() {
        if (!rewriter.seek()) {
            throw new NoSuchElementException("no rule can rewrite anything in the term");
        }
        return rewriter.nextRule();
    }

    private void rewriteOrThrow() {
        if (!rewriter.rewrite()) {
            throw new UnsupportedOperationException("the step can't be made");
        }
    }

    // ---- statements

    public int assume(char kind, int left, int right) throws IllegalArgumentException, IndexOutOfBoundsException,
            IllegalStateException {
        checkStatement(kind, left, right);
        if (stated.howMany() >= MOST_ASSUMPTIONS) {
            throw new IllegalStateException("there are 6 assumptions");
        }
        stated.add(isDemand(kind), placesOf(kind, left, right));
        return stated.howMany() - 1;
    }

    public int drop() throws IllegalStateException {
        if (stated.howMany() == 0) {
            throw new IllegalStateException("there is no assumption");
        }
        stated.removeLast();
        return stated.howMany();
    }

    public int assumptions() {
        return stated.howMany();
    }

    public boolean setGoal(char kind, int left, int right) throws IllegalArgumentException,
            IndexOutOfBoundsException {
        checkStatement(kind, left, right);
        boolean before = stated.hasGoal();
        stated.aimAt(isDemand(kind), placesOf(kind, left, right));
        return before;
    }

    public boolean isConsistent() {
        return stated.haveModel();
    }

    public int deniedBy(int region) throws IllegalArgumentException, NoSuchElementException {
        checkRegion(region);
        int first = stated.firstDenial(region);
        if (first == NONE) {
            throw new NoSuchElementException("no assumption denies the region");
        }
        return first;
    }

    public boolean follows() throws IllegalStateException {
        checkGoal();
        return stated.proveGoal();
    }

    public char why() throws IllegalStateException, NoSuchElementException {
        checkGoal();
        if (!stated.proveGoal()) {
            throw new NoSuchElementException("the goal does not follow");
        }
        if (!stated.haveModel()) {
            return 'm';
        }
        return stated.goalDemands() ? 'w' : 'r';
    }

    public int witness() throws IllegalStateException, UnsupportedOperationException, NoSuchElementException {
        checkGoal();
        if (!stated.goalDemands()) {
            throw new UnsupportedOperationException("the goal does not demand an element");
        }
        int first = stated.firstWitness();
        if (first == NONE) {
            throw new NoSuchElementException("there is no witness");
        }
        return first;
    }

    private void checkStatement(char kind, int left, int right) {
        if (!isDenial(kind) && !isDemand(kind)) {
            throw new IllegalArgumentException("there is no such kind");
        }
        checkTerm(left);
        checkTerm(right);
    }

    private void checkGoal() {
        if (!stated.hasGoal()) {
            throw new IllegalStateException("there is no goal");
        }
    }

    private static boolean isDenial(char kind) {
        return kind == 's' || kind == 'e' || kind == 'd';
    }

    private static boolean isDemand(char kind) {
        return kind == 'x' || kind == 'n' || kind == 'i';
    }

    /** The regions in which the statement allows no element, or in one of which it demands one. */
    private int placesOf(char kind, int left, int right) {
        int inLeft = known.coverOf(left);
        int inRight = known.coverOf(right);
        switch (kind) {
            case 's':
            case 'x':
                return inLeft & ~inRight;
            case 'e':
            case 'n':
                return inLeft ^ inRight;
            default:
                return inLeft & inRight;
        }
    }

    // ---- models

    public int elements() throws IllegalStateException, NoSuchElementException {
        checkGoal();
        search.prepare(stated);
        return leastOrThrow(search.fewestBySets());
    }

    public int elementsByTrying() throws IllegalStateException, NoSuchElementException {
        checkGoal();
        search.prepare(stated);
        return leastOrThrow(search.fewestByTrying());
    }

    public int region(int element) throws IllegalStateException, NoSuchElementException {
        checkGoal();
        search.prepare(stated);
        leastOrThrow(search.fewestBySets());
        int found = search.regionOf(element);
        if (found == NONE) {
            throw new NoSuchElementException("the least counterexample has no such element");
        }
        return found;
    }

    public long models(int elements) throws IllegalArgumentException {
        checkElements(elements, MOST_MODEL_ELEMENTS);
        return stated.countModels(elements);
    }

    public long modelsByTrying(int elements) throws IllegalArgumentException {
        checkElements(elements, MOST_TRIED_ELEMENTS);
        return stated.countModelsByTrying(elements);
    }

    public float density(int term) throws IndexOutOfBoundsException {
        checkTerm(term);
        return (float) Integer.bitCount(known.coverOf(term)) / (float) REGIONS;
    }

    private int leastOrThrow(int fewest) {
        if (fewest == NONE) {
            throw new NoSuchElementException("the goal follows");
        }
        return fewest;
    }

    private void checkElements(int elements, int most) {
        if (elements < 0 || elements > most) {
            throw new IllegalArgumentException("no such number of elements");
        }
    }

    /**
     * The known terms. Each is kept as its first symbol and the numbers of the terms under it,
     * so that two terms with the same symbols have these three in common.
     */
    private static final class Terms {
        private final char[] heads = new char[MOST_TERMS];
        private final int[] lefts = new int[MOST_TERMS];
        private final int[] rights = new int[MOST_TERMS];
        private final int[] sizes = new int[MOST_TERMS];
        private final int[] covered = new int[MOST_TERMS];
        private int count = 0;

        int howMany() {
            return count;
        }

        boolean isKnown(int term) {
            return term >= 0 && term < count && term < MOST_TERMS;
        }

        int sizeOf(int term) {
            return isKnown(term) ? sizes[term] : 0;
        }

        /** The regions that the term covers, a bit each. */
        int coverOf(int term) {
            return isKnown(term) ? covered[term] : 0;
        }

        private char headOf(int term) {
            return isKnown(term) ? heads[term] : BLANK;
        }

        private int leftOf(int term) {
            return isKnown(term) ? lefts[term] : NONE;
        }

        private int rightOf(int term) {
            return isKnown(term) ? rights[term] : NONE;
        }

        char symbolOf(int term, int index) {
            int part = term;
            int rest = index;
            for (int depth = 0; depth < MOST_SIZE && rest > 0; depth++) {
                int left = leftOf(part);
                int leftSize = sizeOf(left);
                boolean inLeft = rest <= leftSize;
                part = inLeft ? left : rightOf(part);
                rest = inLeft ? rest - 1 : rest - 1 - leftSize;
            }
            return headOf(part);
        }

        /** The number of the term, or NONE if it can't be made. */
        int make(char head, int left, int right) {
            int found = find(head, left, right);
            if (found != NONE) {
                return found;
            }
            int size = 1 + sizeOf(left) + sizeOf(right);
            int term = count;
            if (size > MOST_SIZE || term < 0 || term >= MOST_TERMS) {
                return NONE;
            }
            heads[term] = head;
            lefts[term] = left;
            rights[term] = right;
            sizes[term] = size;
            covered[term] = coverFrom(head, coverOf(left), coverOf(right));
            count = term + 1;
            return term;
        }

        private int find(char head, int left, int right) {
            for (int term = 0; term < count && term < MOST_TERMS; term++) {
                if (heads[term] == head && lefts[term] == left && rights[term] == right) {
                    return term;
                }
            }
            return NONE;
        }

        private static int coverFrom(char head, int left, int right) {
            switch (head) {
                case 'a':
                    return 0xAAAA;
                case 'b':
                    return 0xCCCC;
                case 'c':
                    return 0xF0F0;
                case 'd':
                    return 0xFF00;
                case '1':
                    return ALL_REGIONS;
                case 'C':
                    return ALL_REGIONS & ~left;
                case 'U':
                    return left | right;
                case 'I':
                    return left & right;
                case 'D':
                    return left & ~right;
                case 'S':
                    return left ^ right;
                default:
                    return 0;
            }
        }

        /** Makes the term that the text tells, behind all terms in it; NONE if it can't be made. */
        int makeAll(Text text) {
            int before = count;
            text.rewind();
            int made = makeNext(text, 0);
            if (made == NONE) {
                // The terms in it that were made already must not stay known.
                count = before;
            }
            return made;
        }

        private int makeNext(Text text, int depth) {
            if (depth >= MOST_SIZE) {
                return NONE;
            }
            char head = text.read();
            int parts = Text.partsOf(head);
            int left = NONE;
            int right = NONE;
            if (parts > 0) {
                left = makeNext(text, depth + 1);
                if (left == NONE) {
                    return NONE;
                }
            }
            if (parts > 1) {
                right = makeNext(text, depth + 1);
                if (right == NONE) {
                    return NONE;
                }
            }
            return make(head, left, right);
        }

        /** Whether the term covers the region, found without the kept regions. */
        boolean reaches(int term, int region) {
            return reachesBelow(term, region, 0);
        }

        private boolean reachesBelow(int term, int region, int depth) {
            if (depth >= MOST_SIZE || !isKnown(term)) {
                return false;
            }
            char head = headOf(term);
            if (head >= 'a' && head <= 'd') {
                return isIn(head - 'a', region);
            }
            boolean left = reachesBelow(leftOf(term), region, depth + 1);
            boolean right = reachesBelow(rightOf(term), region, depth + 1);
            switch (head) {
                case '1':
                    return true;
                case 'C':
                    return !left;
                case 'U':
                    return left || right;
                case 'I':
                    return left && right;
                case 'D':
                    return left && !right;
                case 'S':
                    return left != right;
                default:
                    return false;
            }
        }
    }

    /** The symbols of one term, in a row that is used again and again. */
    private static final class Text {
        /** The longest text: a symmetric difference of 40 symbols, rewritten, writes 39 of them twice. */
        private static final int MOST_SYMBOLS = 2 * MOST_SIZE + 1;

        private final char[] row = new char[MOST_SYMBOLS];
        /** For each symbol, the index behind the term that begins with it. */
        private final int[] ends = new int[MOST_SYMBOLS];
        private int length = 0;
        private int cursor = 0;

        static int partsOf(char symbol) {
            switch (symbol) {
                case 'C':
                    return 1;
                case 'U':
                case 'I':
                case 'D':
                case 'S':
                    return 2;
                default:
                    return 0;
            }
        }

        int length() {
            return length;
        }

        void clear() {
            length = 0;
        }

        void rewind() {
            cursor = 0;
        }

        char read() {
            char symbol = at(cursor);
            cursor++;
            return symbol;
        }

        char at(int index) {
            return index >= 0 && index < length && index < MOST_SYMBOLS ? row[index] : BLANK;
        }

        void put(char symbol) {
            if (length >= 0 && length < MOST_SYMBOLS) {
                row[length] = symbol;
                length++;
            }
        }

        void putPart(Text from, int start, int end) {
            for (int index = start; index < end && index < MOST_SYMBOLS; index++) {
                put(from.at(index));
            }
        }

        /** Finds where each term in the text ends; due when the text is whole, before endOf. */
        void measure() {
            for (int start = Math.min(length, MOST_SYMBOLS) - 1; start >= 0; start--) {
                int end = start + 1;
                int parts = partsOf(row[start]);
                for (int part = 0; part < parts; part++) {
                    end = endOf(end);
                }
                ends[start] = end;
            }
        }

        /** The index behind the last symbol of the term that begins at the start. */
        int endOf(int start) {
            return start >= 0 && start < length && start < MOST_SYMBOLS ? ends[start] : length;
        }

        boolean isSame(int left, int right) {
            int symbols = endOf(left) - left;
            if (endOf(right) - right != symbols) {
                return false;
            }
            for (int index = 0; index < symbols; index++) {
                if (at(left + index) != at(right + index)) {
                    return false;
                }
            }
            return true;
        }
    }

    /** Rewrites one term step by step, without making the terms between. */
    private static final class Rewriter {
        private Text now = new Text();
        private Text next = new Text();
        private int place = 0;
        private char rule = BLANK;

        void load(Terms terms, int term) {
            now.clear();
            int size = terms.sizeOf(term);
            for (int index = 0; index < size; index++) {
                now.put(terms.symbolOf(term, index));
            }
        }

        Text text() {
            return now;
        }

        char nextRule() {
            return rule;
        }

        /** Finds the place and the rule of the next step; false if no rule can rewrite anything. */
        boolean seek() {
            now.measure();
            rule = BLANK;
            for (int index = 0; index < now.length() && rule == BLANK; index++) {
                place = index;
                rule = ruleAt(index);
            }
            return rule != BLANK;
        }

        private char ruleAt(int index) {
            switch (now.at(index)) {
                case 'C':
                    return ruleOfComplement(now.at(index + 1));
                case 'D':
                    return 'd';
                case 'S':
                    return 's';
                case 'I':
                    return ruleOfPair(index + 1, 'z', 'o');
                case 'U':
                    return ruleOfPair(index + 1, 'y', 't');
                default:
                    return BLANK;
            }
        }

        private static char ruleOfComplement(char inside) {
            switch (inside) {
                case 'C':
                    return 'n';
                case '0':
                    return 'e';
                case '1':
                    return 'v';
                case 'U':
                    return 'u';
                case 'I':
                    return 'i';
                default:
                    return BLANK;
            }
        }

        private char ruleOfPair(int left, char ruleOfEmpty, char ruleOfUniverse) {
            int right = now.endOf(left);
            if (now.at(left) == '0' || now.at(right) == '0') {
                return ruleOfEmpty;
            }
            if (now.at(left) == '1' || now.at(right) == '1') {
                return ruleOfUniverse;
            }
            if (now.isSame(left, right)) {
                return 'p';
            }
            boolean leftIsComplement = now.at(left) == 'C' && now.isSame(left + 1, right);
            boolean rightIsComplement = now.at(right) == 'C' && now.isSame(right + 1, left);
            return leftIsComplement || rightIsComplement ? 'c' : BLANK;
        }

        /** Makes the step that seek has found; answers false, and changes nothing, if it can't be made. */
        boolean rewrite() {
            int end = now.endOf(place);
            next.clear();
            next.putPart(now, 0, place);
            putRewritten(end);
            next.putPart(now, end, now.length());
            if (next.length() > MOST_SIZE) {
                return false;
            }
            Text old = now;
            now = next;
            next = old;
            return true;
        }

        private void putRewritten(int end) {
            int left = place + 1;
            int right = now.endOf(left);
            switch (rule) {
                case 'n':
                    next.putPart(now, left + 1, end);
                    break;
                case 'u':
                    putComplements('I', left + 1, end);
                    break;
                case 'i':
                    putComplements('U', left + 1, end);
                    break;
                case 'd':
                    next.put('I');
                    next.putPart(now, left, right);
                    next.put('C');
                    next.putPart(now, right, end);
                    break;
                case 's':
                    putDifferences(left, right, end);
                    break;
                case 'o':
                    putOtherSide('1', left, right, end);
                    break;
                case 'y':
                    putOtherSide('0', left, right, end);
                    break;
                case 'p':
                    next.putPart(now, left, right);
                    break;
                default:
                    next.put(constantOf(rule, now.at(place)));
                    break;
            }
        }

        private void putComplements(char head, int left, int end) {
            int right = now.endOf(left);
            next.put(head);
            next.put('C');
            next.putPart(now, left, right);
            next.put('C');
            next.putPart(now, right, end);
        }

        private void putDifferences(int left, int right, int end) {
            next.put('U');
            next.put('D');
            next.putPart(now, left, end);
            next.put('D');
            next.putPart(now, right, end);
            next.putPart(now, left, right);
        }

        private void putOtherSide(char side, int left, int right, int end) {
            if (now.at(left) == side) {
                next.putPart(now, right, end);
            } else {
                next.putPart(now, left, right);
            }
        }

        private static char constantOf(char rule, char head) {
            switch (rule) {
                case 'e':
                case 't':
                    return '1';
                case 'c':
                    return head == 'U' ? '1' : '0';
                default:
                    return '0';
            }
        }
    }

    /**
     * The cubes, numbered in the order of the prime implicants: a number has a digit to the base 3
     * for each letter, the letter 0 highest, with 0 for '-', 1 for '0' and 2 for '1'.
     */
    private static final class Cubes {
        private static final int COUNT = 81;
        private static final int ANY = 0;
        private static final int OUTSIDE = 1;

        private final int[] contained = new int[COUNT];
        private final boolean[] implicant = new boolean[COUNT];
        private final boolean[] joined = new boolean[COUNT];

        Cubes() {
            for (int cube = 0; cube < COUNT; cube++) {
                contained[cube] = regionsIn(cube);
            }
        }

        static char tells(int cube, int letter) {
            int digit = digitOf(cube, letter);
            if (digit == ANY) {
                return '-';
            }
            return digit == OUTSIDE ? '0' : '1';
        }

        private static int digitOf(int cube, int letter) {
            switch (letter) {
                case 0:
                    return cube / 27;
                case 1:
                    return cube / 9 % 3;
                case 2:
                    return cube / 3 % 3;
                default:
                    return cube % 3;
            }
        }

        private static int weightOf(int letter) {
            switch (letter) {
                case 0:
                    return 27;
                case 1:
                    return 9;
                case 2:
                    return 3;
                default:
                    return 1;
            }
        }

        private static int regionsIn(int cube) {
            int regions = 0;
            for (int region = 0; region < REGIONS; region++) {
                if (contains(cube, region)) {
                    regions |= 1 << region;
                }
            }
            return regions;
        }

        private static boolean contains(int cube, int region) {
            for (int letter = 0; letter < LETTERS; letter++) {
                int digit = digitOf(cube, letter);
                if (digit != ANY && isIn(letter, region) == (digit == OUTSIDE)) {
                    return false;
                }
            }
            return true;
        }

        /** Finds the implicants by joining, each from two that tell another digit for one letter. */
        void join(int cover) {
            // The two parts of a cube have higher numbers than the cube, so they are known before it.
            for (int cube = COUNT - 1; cube >= 0; cube--) {
                joined[cube] = false;
                implicant[cube] = isSingle(cube) && (contained[cube] & cover) != 0;
                for (int letter = 0; letter < LETTERS; letter++) {
                    if (digitOf(cube, letter) == ANY) {
                        joinParts(cube, letter);
                    }
                }
            }
        }

        private static boolean isSingle(int cube) {
            for (int letter = 0; letter < LETTERS; letter++) {
                if (digitOf(cube, letter) == ANY) {
                    return false;
                }
            }
            return true;
        }

        private void joinParts(int cube, int letter) {
            int outside = cube + weightOf(letter);
            int inside = outside + weightOf(letter);
            if (cube >= 0 && inside < COUNT && implicant[outside] && implicant[inside]) {
                implicant[cube] = true;
                joined[outside] = true;
                joined[inside] = true;
            }
        }

        int countPrimes() {
            int count = 0;
            for (int cube = 0; cube < COUNT; cube++) {
                if (implicant[cube] && !joined[cube]) {
                    count++;
                }
            }
            return count;
        }

        /** The cube that is the prime implicant with the index, or NONE. */
        int primeAt(int index) {
            int before = 0;
            for (int cube = 0; cube < COUNT; cube++) {
                if (implicant[cube] && !joined[cube]) {
                    if (before == index) {
                        return cube;
                    }
                    before++;
                }
            }
            return NONE;
        }

        int countByTrying(int cover) {
            int count = 0;
            for (int cube = 0; cube < COUNT; cube++) {
                if (isInside(contained[cube], cover) && !isInLarger(cube, cover)) {
                    count++;
                }
            }
            return count;
        }

        private boolean isInLarger(int cube, int cover) {
            if (cube < 0 || cube >= COUNT) {
                return false;
            }
            for (int other = 0; other < COUNT; other++) {
                if (other != cube && isInside(contained[other], cover)
                        && isInside(contained[cube], contained[other])) {
                    return true;
                }
            }
            return false;
        }

        private static boolean isInside(int regions, int cover) {
            return (regions & ~cover) == 0;
        }
    }

    /**
     * The assumptions and the goal. A statement either denies every element in its regions, or
     * demands an element in one of them.
     */
    private static final class Statements {
        private final boolean[] demanding = new boolean[MOST_ASSUMPTIONS];
        private final int[] places = new int[MOST_ASSUMPTIONS];
        private int count = 0;
        private boolean goalSet = false;
        private boolean goalDemanding = false;
        private int goalPlaces = 0;

        int howMany() {
            return count;
        }

        void add(boolean demands, int regions) {
            if (count >= 0 && count < MOST_ASSUMPTIONS) {
                demanding[count] = demands;
                places[count] = regions;
                count++;
            }
        }

        void removeLast() {
            if (count > 0) {
                count--;
            }
        }

        boolean demandsElement(int number) {
            return number >= 0 && number < count && number < MOST_ASSUMPTIONS && demanding[number];
        }

        int placesAt(int number) {
            return number >= 0 && number < count && number < MOST_ASSUMPTIONS ? places[number] : 0;
        }

        boolean hasGoal() {
            return goalSet;
        }

        boolean goalDemands() {
            return goalDemanding;
        }

        int goalRegions() {
            return goalPlaces;
        }

        void aimAt(boolean demands, int regions) {
            goalSet = true;
            goalDemanding = demands;
            goalPlaces = regions;
        }

        /** The regions that no assumption denies. */
        int allowed() {
            int regions = ALL_REGIONS;
            for (int number = 0; number < count; number++) {
                if (!demandsElement(number)) {
                    regions &= ~placesAt(number);
                }
            }
            return regions;
        }

        int firstDenial(int region) {
            for (int number = 0; number < count; number++) {
                if (!demandsElement(number) && isIn(region, placesAt(number))) {
                    return number;
                }
            }
            return NONE;
        }

        /** The first assumption whose demand can't be met in the regions, or NONE. */
        private int firstUnmet(int regions) {
            for (int number = 0; number < count; number++) {
                if (demandsElement(number) && (placesAt(number) & regions) == 0) {
                    return number;
                }
            }
            return NONE;
        }

        boolean haveModel() {
            return firstUnmet(allowed()) == NONE;
        }

        int firstWitness() {
            return firstUnmet(allowed() & ~goalPlaces);
        }

        boolean proveGoal() {
            if (goalDemanding) {
                return firstWitness() != NONE;
            }
            return !haveModel() || (allowed() & goalPlaces) == 0;
        }

        /** Whether all assumptions hold if there are elements in just these regions. */
        private boolean allHold(int occupied) {
            for (int number = 0; number < count; number++) {
                if (demandsElement(number) != ((placesAt(number) & occupied) != 0)) {
                    return false;
                }
            }
            return true;
        }

        /** Counts by inclusion and exclusion: a set of demands is left unmet outside its regions. */
        long countModels(int elements) {
            int free = allowed();
            long ways = 0;
            for (int set = 0; set < 1 << count; set++) {
                if (isSetOfDemands(set)) {
                    long unmet = power(Integer.bitCount(free & ~placesOfSet(set)), elements);
                    ways += Integer.bitCount(set) % 2 == 0 ? unmet : -unmet;
                }
            }
            return ways;
        }

        private boolean isSetOfDemands(int set) {
            for (int number = 0; number < count; number++) {
                if (isIn(number, set) && !demandsElement(number)) {
                    return false;
                }
            }
            return true;
        }

        private int placesOfSet(int set) {
            int regions = 0;
            for (int number = 0; number < count; number++) {
                if (isIn(number, set)) {
                    regions |= placesAt(number);
                }
            }
            return regions;
        }

        private static long power(int base, int exponent) {
            long product = 1;
            for (int factor = 0; factor < exponent; factor++) {
                product *= base;
            }
            return product;
        }

        long countModelsByTrying(int elements) {
            long ways = 0;
            long all = power(REGIONS, elements);
            for (long way = 0; way < all; way++) {
                if (allHold(occupiedBy(way, elements))) {
                    ways++;
                }
            }
            return ways;
        }

        /** The regions with elements if the digits of the way, to the base 16, tell each element's region. */
        private static int occupiedBy(long way, int elements) {
            int occupied = 0;
            for (int element = 0; element < elements; element++) {
                occupied |= 1 << (way >> 4 * element & 15);
            }
            return occupied;
        }
    }

    /**
     * The search for the least counterexample. It has an element for each demand: those of the
     * assumptions, and that of a goal which would deny; a goal that would demand is denied instead.
     */
    private static final class Search {
        private static final int MOST_DEMANDS = MOST_ASSUMPTIONS + 1;
        private static final int SETS = 1 << MOST_DEMANDS;
        /** Stands for more elements than any counterexample needs. */
        private static final int NEVER = 100;

        private final int[] meets = new int[REGIONS];
        /** For each region and set of demands, how few elements from this region on meet the set. */
        private final int[] fewest = new int[(REGIONS + 1) * SETS];
        private int wanted = 0;

        void prepare(Statements statements) {
            for (int region = 0; region < REGIONS; region++) {
                meets[region] = 0;
            }
            wanted = 0;
            int free = statements.allowed();
            if (statements.goalDemands()) {
                free &= ~statements.goalRegions();
            } else {
                want(MOST_ASSUMPTIONS, statements.goalRegions() & free);
            }
            for (int number = 0; number < statements.howMany(); number++) {
                if (statements.demandsElement(number)) {
                    want(number, statements.placesAt(number) & free);
                }
            }
        }

        private void want(int demand, int regions) {
            wanted |= 1 << demand;
            for (int region = 0; region < REGIONS; region++) {
                if (isIn(region, regions)) {
                    meets[region] |= 1 << demand;
                }
            }
        }

        /** The least number of elements, or NONE if there is no counterexample. */
        int fewestBySets() {
            for (int set = 0; set < SETS; set++) {
                fewest[REGIONS * SETS + set] = set == 0 ? 0 : NEVER;
            }
            for (int region = REGIONS - 1; region >= 0; region--) {
                int met = meets[region];
                for (int set = 0; set < SETS; set++) {
                    int without = fewestFrom(region + 1, set);
                    int with = 1 + fewestFrom(region + 1, set & ~met);
                    fewest[region * SETS + set] = Math.min(without, with);
                }
            }
            int least = fewestFrom(0, wanted);
            return least < NEVER ? least : NONE;
        }

        private int fewestFrom(int region, int set) {
            if (region < 0 || region > REGIONS || set < 0 || set >= SETS) {
                return NEVER;
            }
            return fewest[region * SETS + set];
        }

        /** The region of an element, behind fewestBySets; NONE if there is no such element. */
        int regionOf(int element) {
            int open = wanted;
            int found = 0;
            for (int region = 0; region < REGIONS; region++) {
                int behind = open & ~meets[region];
                // Taking each region as soon as it still leads to the fewest finds the set that comes first.
                if (behind != open && fewestFrom(region + 1, behind) + 1 == fewestFrom(region, open)) {
                    if (found == element) {
                        return region;
                    }
                    found++;
                    open = behind;
                }
            }
            return NONE;
        }

        int fewestByTrying() {
            for (int elements = 0; elements <= MOST_DEMANDS; elements++) {
                if (canMeet(wanted, elements)) {
                    return elements;
                }
            }
            return NONE;
        }

        /** Tries every region that meets the first open demand; so many elements are left. */
        private boolean canMeet(int open, int elements) {
            if (open == 0) {
                return true;
            }
            if (elements <= 0) {
                return false;
            }
            int first = open & -open;
            for (int region = 0; region < REGIONS; region++) {
                if ((meets[region] & first) != 0 && canMeet(open & ~meets[region], elements - 1)) {
                    return true;
                }
            }
            return false;
        }
    }
}
