import java.util.ArrayList;
import java.util.List;

/**
 * The document once more, in the plainest words: terms are texts, and every question about models is
 * answered by going through all sets of regions. It throws the document's exceptions on its own.
 */
final class Reference {

    private final List<String> terms = new ArrayList<>();
    private final List<Said> assumptions = new ArrayList<>();
    private Said goal = null;

    private static final class Said {
        final char kind;
        final String left;
        final String right;
        /** For each set of regions with elements, whether the statement holds. */
        final boolean[] holds = new boolean[1 << 16];

        Said(char kind, String left, String right) {
            this.kind = kind;
            this.left = left;
            this.right = right;
            int regions = 0;
            for (int region = 0; region < 16; region++) {
                regions |= touches(region) ? 1 << region : 0;
            }
            for (int occupied = 0; occupied < holds.length; occupied++) {
                boolean none = (occupied & regions) == 0;
                holds[occupied] = demands() ? !none : none;
            }
        }

        boolean demands() {
            return "xni".indexOf(kind) >= 0;
        }

        boolean touches(int region) {
            boolean inLeft = covers(left, region);
            boolean inRight = covers(right, region);
            switch (kind) {
                case 's':
                case 'x':
                    return inLeft && !inRight;
                case 'e':
                case 'n':
                    return inLeft != inRight;
                default:
                    return inLeft && inRight;
            }
        }
    }

    // ---- terms as texts

    static int end(String text, int start) {
        int open = 1;
        int at = start;
        while (open > 0) {
            char symbol = text.charAt(at++);
            open += symbol == 'C' ? 0 : "UIDS".indexOf(symbol) >= 0 ? 1 : -1;
        }
        return at;
    }

    static String left(String text) {
        return text.substring(1, end(text, 1));
    }

    static String right(String text) {
        return text.substring(end(text, 1));
    }

    static boolean covers(String text, int region) {
        switch (text.charAt(0)) {
            case '0':
                return false;
            case '1':
                return true;
            case 'C':
                return !covers(text.substring(1), region);
            case 'U':
                return covers(left(text), region) || covers(right(text), region);
            case 'I':
                return covers(left(text), region) && covers(right(text), region);
            case 'D':
                return covers(left(text), region) && !covers(right(text), region);
            case 'S':
                return covers(left(text), region) != covers(right(text), region);
            default:
                return (region >> text.charAt(0) - 'a') % 2 == 1;
        }
    }

    /** What the rule makes of the whole text, or null if it can't rewrite it. */
    static String apply(char rule, String text) {
        char head = text.charAt(0);
        boolean pair = head == 'U' || head == 'I';
        switch (rule) {
            case 'n':
                return text.startsWith("CC") ? text.substring(2) : null;
            case 'e':
                return text.equals("C0") ? "1" : null;
            case 'v':
                return text.equals("C1") ? "0" : null;
            case 'u':
                return text.startsWith("CU") ? "IC" + left(text.substring(1)) + "C" + right(text.substring(1)) : null;
            case 'i':
                return text.startsWith("CI") ? "UC" + left(text.substring(1)) + "C" + right(text.substring(1)) : null;
            case 'd':
                return head == 'D' ? "I" + left(text) + "C" + right(text) : null;
            case 's':
                return head == 'S' ? "UD" + left(text) + right(text) + "D" + right(text) + left(text) : null;
            case 'z':
                return head == 'I' && hasSide(text, "0") ? "0" : null;
            case 'o':
                return head == 'I' && hasSide(text, "1") ? otherSide(text, "1") : null;
            case 'y':
                return head == 'U' && hasSide(text, "0") ? otherSide(text, "0") : null;
            case 't':
                return head == 'U' && hasSide(text, "1") ? "1" : null;
            case 'p':
                return pair && left(text).equals(right(text)) ? left(text) : null;
            default:
                boolean both = pair && (left(text).equals("C" + right(text)) || right(text).equals("C" + left(text)));
                return both ? (head == 'I' ? "0" : "1") : null;
        }
    }

    private static boolean hasSide(String text, String side) {
        return left(text).equals(side) || right(text).equals(side);
    }

    private static String otherSide(String text, String side) {
        return left(text).equals(side) ? right(text) : left(text);
    }

    /** The rule's letter and the text behind the next step, or null. */
    static String next(String text) {
        for (int at = 0; at < text.length(); at++) {
            int end = end(text, at);
            for (char rule : "nevuidszoytpc".toCharArray()) {
                String made = apply(rule, text.substring(at, end));
                if (made != null) {
                    return rule + text.substring(0, at) + made + text.substring(end);
                }
            }
        }
        return null;
    }

    // ---- terms of the object

    private String term(int number) {
        if (number < 0 || number >= terms.size()) {
            throw new IndexOutOfBoundsException();
        }
        return terms.get(number);
    }

    /** Adds the terms of which the text consists, those of the left term first, and then itself. */
    static void collect(String text, List<String> into) {
        char head = text.charAt(0);
        if (head == 'C') {
            collect(text.substring(1), into);
        } else if ("UIDS".indexOf(head) >= 0) {
            collect(left(text), into);
            collect(right(text), into);
        }
        if (!into.contains(text)) {
            into.add(text);
        }
    }

    private int make(String text) {
        List<String> all = new ArrayList<>(terms);
        collect(text, all);
        if (text.length() > 40 || all.size() > 120) {
            throw new IllegalStateException();
        }
        terms.clear();
        terms.addAll(all);
        return terms.indexOf(text);
    }

    private static void need(boolean is) {
        if (!is) {
            throw new IllegalArgumentException();
        }
    }

    private static void exists(boolean is) {
        if (!is) {
            throw new java.util.NoSuchElementException();
        }
    }

    int letter(int letter) {
        need(letter >= 0 && letter <= 3);
        return make("" + "abcd".charAt(letter));
    }

    int empty() {
        return make("0");
    }

    int universe() {
        return make("1");
    }

    int complement(int term) {
        return make("C" + term(term));
    }

    int pair(char head, int left, int right) {
        return make(head + term(left) + term(right));
    }

    int terms() {
        return terms.size();
    }

    int size(int term) {
        return term(term).length();
    }

    char symbol(int term, int index) {
        String text = term(term);
        exists(index >= 0 && index < text.length());
        return text.charAt(index);
    }

    int regions(int term) {
        int count = 0;
        for (int region = 0; region < 16; region++) {
            count += covers(term, region) ? 1 : 0;
        }
        return count;
    }

    boolean covers(int term, int region) {
        String text = term(term);
        need(region >= 0 && region <= 15);
        return covers(text, region);
    }

    boolean isEqual(int left, int right) {
        term(left);
        term(right);
        for (int region = 0; region < 16; region++) {
            if (covers(left, region) != covers(right, region)) {
                return false;
            }
        }
        return true;
    }

    float density(int term) {
        return (float) regions(term) / 16f;
    }

    // ---- normal forms

    char rule(int term) {
        String next = next(term(term));
        exists(next != null);
        return next.charAt(0);
    }

    int step(int term) {
        String next = next(term(term));
        exists(next != null);
        if (next.length() - 1 > 40) {
            throw new UnsupportedOperationException();
        }
        return make(next.substring(1));
    }

    int steps(int term) {
        String text = term(term);
        int made = 0;
        for (String next = next(text); next != null && next.length() <= 41; next = next(text)) {
            text = next.substring(1);
            made++;
        }
        return made;
    }

    int normalForm(int term) {
        String text = term(term);
        for (String next = next(text); next != null; next = next(text)) {
            if (next.length() > 41) {
                throw new UnsupportedOperationException();
            }
            text = next.substring(1);
        }
        return make(text);
    }

    /** The prime implicants in their order, each as four signs. */
    List<String> primesOf(int term) {
        String text = term(term);
        List<String> implicants = new ArrayList<>();
        for (char first : "-01".toCharArray()) {
            for (char second : "-01".toCharArray()) {
                for (char third : "-01".toCharArray()) {
                    for (char fourth : "-01".toCharArray()) {
                        String cube = "" + first + second + third + fourth;
                        if (isImplicant(cube, text)) {
                            implicants.add(cube);
                        }
                    }
                }
            }
        }
        List<String> primes = new ArrayList<>();
        for (String cube : implicants) {
            boolean larger = false;
            for (String other : implicants) {
                larger |= !other.equals(cube) && isLarger(other, cube);
            }
            if (!larger) {
                primes.add(cube);
            }
        }
        return primes;
    }

    private static boolean isImplicant(String cube, String text) {
        for (int region = 0; region < 16; region++) {
            if (isIn(region, cube) && !covers(text, region)) {
                return false;
            }
        }
        return true;
    }

    private static boolean isIn(int region, String cube) {
        for (int letter = 0; letter < 4; letter++) {
            char bit = (region >> letter & 1) == 1 ? '1' : '0';
            if (cube.charAt(letter) != '-' && cube.charAt(letter) != bit) {
                return false;
            }
        }
        return true;
    }

    private static boolean isLarger(String large, String small) {
        for (int region = 0; region < 16; region++) {
            if (isIn(region, small) && !isIn(region, large)) {
                return false;
            }
        }
        return true;
    }

    int primes(int term) {
        return primesOf(term).size();
    }

    char prime(int term, int index, int letter) {
        List<String> primes = primesOf(term);
        exists(index >= 0 && index < primes.size());
        need(letter >= 0 && letter <= 3);
        return primes.get(index).charAt(letter);
    }

    // ---- statements

    private Said say(char kind, int left, int right) {
        need("sedxni".indexOf(kind) >= 0);
        term(left);
        term(right);
        return new Said(kind, term(left), term(right));
    }

    int assume(char kind, int left, int right) {
        Said said = say(kind, left, right);
        if (assumptions.size() == 6) {
            throw new IllegalStateException();
        }
        assumptions.add(said);
        return assumptions.size() - 1;
    }

    int drop() {
        if (assumptions.isEmpty()) {
            throw new IllegalStateException();
        }
        assumptions.remove(assumptions.size() - 1);
        return assumptions.size();
    }

    int assumptions() {
        return assumptions.size();
    }

    boolean setGoal(char kind, int left, int right) {
        Said said = say(kind, left, right);
        boolean before = goal != null;
        goal = said;
        return before;
    }

    private boolean isModel(int occupied) {
        for (Said said : assumptions) {
            if (!said.holds[occupied]) {
                return false;
            }
        }
        return true;
    }

    boolean isConsistent() {
        for (int occupied = 0; occupied < 1 << 16; occupied++) {
            if (isModel(occupied)) {
                return true;
            }
        }
        return false;
    }

    int deniedBy(int region) {
        need(region >= 0 && region <= 15);
        for (int number = 0; number < assumptions.size(); number++) {
            Said said = assumptions.get(number);
            if (!said.demands() && said.touches(region)) {
                return number;
            }
        }
        throw new java.util.NoSuchElementException();
    }

    private boolean isDenied(int region) {
        for (Said said : assumptions) {
            if (!said.demands() && said.touches(region)) {
                return true;
            }
        }
        return false;
    }

    private void needGoal() {
        if (goal == null) {
            throw new IllegalStateException();
        }
    }

    boolean follows() {
        return least() == null;
    }

    char why() {
        exists(follows());
        return !isConsistent() ? 'm' : goal.demands() ? 'w' : 'r';
    }

    int witness() {
        needGoal();
        if (!goal.demands()) {
            throw new UnsupportedOperationException();
        }
        for (int number = 0; number < assumptions.size(); number++) {
            Said said = assumptions.get(number);
            boolean all = said.demands();
            for (int region = 0; region < 16; region++) {
                all &= !said.touches(region) || isDenied(region) || goal.touches(region);
            }
            if (all) {
                return number;
            }
        }
        throw new java.util.NoSuchElementException();
    }

    // ---- models

    /** The regions of the least counterexample, or null if the goal follows. */
    private List<Integer> least() {
        needGoal();
        List<Integer> best = null;
        for (int occupied = 0; occupied < 1 << 16; occupied++) {
            if (isModel(occupied) && !goal.holds[occupied]
                    && (best == null || Integer.bitCount(occupied) <= best.size())) {
                List<Integer> regions = regionsOf(occupied);
                if (best == null || isBefore(regions, best)) {
                    best = regions;
                }
            }
        }
        return best;
    }

    private static List<Integer> regionsOf(int occupied) {
        List<Integer> regions = new ArrayList<>();
        for (int region = 0; region < 16; region++) {
            if ((occupied >> region & 1) == 1) {
                regions.add(region);
            }
        }
        return regions;
    }

    private static boolean isBefore(List<Integer> one, List<Integer> other) {
        if (one.size() != other.size()) {
            return one.size() < other.size();
        }
        for (int index = 0; index < one.size(); index++) {
            if (!one.get(index).equals(other.get(index))) {
                return one.get(index) < other.get(index);
            }
        }
        return false;
    }

    int elements() {
        List<Integer> least = least();
        exists(least != null);
        return least.size();
    }

    int region(int element) {
        List<Integer> least = least();
        exists(least != null && element >= 0 && element < least.size());
        return least.get(element);
    }

    long models(int elements) {
        need(elements >= 0 && elements <= 6);
        long ways = 0;
        for (int occupied = 0; occupied < 1 << 16; occupied++) {
            if (Integer.bitCount(occupied) <= elements && isModel(occupied)) {
                ways += onto(elements, Integer.bitCount(occupied));
            }
        }
        return ways;
    }

    long modelsByTrying(int elements) {
        need(elements <= 3);
        return models(elements);
    }

    /** In how many ways so many elements fill just so many regions. */
    private static long onto(int elements, int regions) {
        if (elements == 0 || regions == 0) {
            return elements == regions ? 1 : 0;
        }
        return regions * (onto(elements - 1, regions - 1) + onto(elements - 1, regions));
    }
}
