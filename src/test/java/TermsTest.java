/** Promises 1 to 12: a new object, and the terms. */
public final class TermsTest {

    public static void main(String[] args) {
        newObject();
        letters();
        constants();
        complements();
        pairs();
        sameTerms();
        sizes();
        symbols();
        sizeLimit();
        termLimit();
        order();
        Check.finish("TermsTest");
    }

    private static void newObject() {
        Gimlet gimlet = new Gimlet();
        Check.due("new: terms()", gimlet.terms(), 0);
        Check.due("new: assumptions()", gimlet.assumptions(), 0);
        Check.holds("new: isConsistent()", gimlet.isConsistent());
        Check.illegalState("new: follows()", gimlet, gimlet::follows);
        Check.illegalState("new: drop()", gimlet, gimlet::drop);
        Check.outOfBounds("new: size(0)", gimlet, () -> gimlet.size(0));
        Gimlet other = new Gimlet();
        other.letter(2);
        Check.due("another object's terms", gimlet.terms(), 0);
    }

    private static void letters() {
        Gimlet gimlet = new Gimlet();
        for (int letter = 0; letter < 4; letter++) {
            Check.due("letter(" + letter + ")", gimlet.letter(letter), letter);
            Check.due("symbol of letter " + letter, gimlet.symbol(letter, 0), (char) ('a' + letter));
        }
        Check.due("letter(3) again", gimlet.letter(3), 3);
        Check.due("terms()", gimlet.terms(), 4);
        for (int letter : new int[] {-1, 4, Integer.MIN_VALUE, Integer.MAX_VALUE}) {
            Check.illegalArgument("letter(" + letter + ")", gimlet, () -> gimlet.letter(letter));
        }
    }

    private static void constants() {
        Gimlet gimlet = new Gimlet();
        Check.due("universe()", gimlet.universe(), 0);
        Check.due("empty()", gimlet.empty(), 1);
        Check.due("universe() again", gimlet.universe(), 0);
        Check.due("empty() again", gimlet.empty(), 1);
        Check.due("the universe", Check.text(gimlet, 0), "1");
        Check.due("the empty set", Check.text(gimlet, 1), "0");
        Check.due("terms()", gimlet.terms(), 2);
    }

    private static void complements() {
        Gimlet gimlet = new Gimlet();
        gimlet.letter(1);
        Check.due("complement(0)", gimlet.complement(0), 1);
        Check.due("complement(1)", gimlet.complement(1), 2);
        Check.due("complement(0) again", gimlet.complement(0), 1);
        Check.due("its symbols", Check.text(gimlet, 2), "CCb");
        for (int term : new int[] {-1, 3, Integer.MIN_VALUE, Integer.MAX_VALUE}) {
            Check.outOfBounds("complement(" + term + ")", gimlet, () -> gimlet.complement(term));
        }
    }

    private interface Pair {
        int make(Gimlet gimlet, int left, int right);
    }

    private static void pairs() {
        pair("union", 'U', Gimlet::union);
        pair("intersection", 'I', Gimlet::intersection);
        pair("difference", 'D', Gimlet::difference);
        pair("symmetric", 'S', Gimlet::symmetric);
    }

    private static void pair(String name, char head, Pair pair) {
        Gimlet gimlet = new Gimlet();
        gimlet.letter(3);
        gimlet.empty();
        Check.due(name + "(0, 1)", pair.make(gimlet, 0, 1), 2);
        Check.due(name + "(1, 0)", pair.make(gimlet, 1, 0), 3);
        Check.due(name + "(2, 3)", pair.make(gimlet, 2, 3), 4);
        Check.due(name + "(1, 1)", pair.make(gimlet, 1, 1), 5);
        Check.due(name + "(0, 1) again", pair.make(gimlet, 0, 1), 2);
        Check.due(name + "(1, 0) again", pair.make(gimlet, 1, 0), 3);
        Check.due("terms behind " + name, gimlet.terms(), 6);
        Check.due("symbols of " + name, Check.text(gimlet, 4), head + "" + head + "d0" + head + "0d");
        for (int term : new int[] {-1, 6, Integer.MIN_VALUE, Integer.MAX_VALUE}) {
            Check.outOfBounds(name + "(" + term + ", 0)", gimlet, () -> pair.make(gimlet, term, 0));
            Check.outOfBounds(name + "(0, " + term + ")", gimlet, () -> pair.make(gimlet, 0, term));
        }
    }

    /** The four pairs with the same sides are four terms. */
    private static void sameTerms() {
        Gimlet gimlet = new Gimlet();
        gimlet.letter(0);
        gimlet.letter(1);
        Check.due("union", gimlet.union(0, 1), 2);
        Check.due("intersection", gimlet.intersection(0, 1), 3);
        Check.due("difference", gimlet.difference(0, 1), 4);
        Check.due("symmetric", gimlet.symmetric(0, 1), 5);
        Check.due("terms()", gimlet.terms(), 6);
    }

    private static void sizes() {
        Gimlet gimlet = new Gimlet();
        Check.due("size of b", gimlet.size(Check.make(gimlet, "b")), 1);
        Check.due("size of 0", gimlet.size(Check.make(gimlet, "0")), 1);
        Check.due("size of Cb", gimlet.size(Check.make(gimlet, "Cb")), 2);
        Check.due("size of SCbb", gimlet.size(Check.make(gimlet, "SCbb")), 4);
        Check.due("size of DSCbbU0C1", gimlet.size(Check.make(gimlet, "DSCbbU0C1")), 9);
        Check.outOfBounds("size(-1)", gimlet, () -> gimlet.size(-1));
        Check.outOfBounds("size(terms)", gimlet, () -> gimlet.size(gimlet.terms()));
        Check.outOfBounds("size(MIN)", gimlet, () -> gimlet.size(Integer.MIN_VALUE));
    }

    private static void symbols() {
        Gimlet gimlet = new Gimlet();
        String deep = "UICaDb0SCUcd1";
        int term = Check.make(gimlet, deep);
        for (int index = 0; index < deep.length(); index++) {
            Check.due("symbol " + index + " of " + deep, gimlet.symbol(term, index), deep.charAt(index));
        }
        for (int index : new int[] {-1, deep.length(), Integer.MIN_VALUE, Integer.MAX_VALUE}) {
            Check.noSuchElement("symbol(term, " + index + ")", gimlet, () -> gimlet.symbol(term, index));
            Check.outOfBounds("symbol(-1, " + index + ")", gimlet, () -> gimlet.symbol(-1, index));
        }
        Check.outOfBounds("symbol(terms, 0)", gimlet, () -> gimlet.symbol(gimlet.terms(), 0));
    }

    private static void sizeLimit() {
        Gimlet gimlet = new Gimlet();
        int term = gimlet.letter(0);
        for (int size = 2; size <= 40; size++) {
            term = gimlet.complement(term);
        }
        int largest = term;
        Check.due("largest", gimlet.size(largest), 40);
        Check.due("its last symbol", gimlet.symbol(largest, 39), 'a');
        Check.illegalState("complement of 40 symbols", gimlet, () -> gimlet.complement(largest));
        int nineteen = 18;
        int twenty = 19;
        Check.due("19 + 20 + 1 symbols", gimlet.size(gimlet.union(nineteen, twenty)), 40);
        Check.illegalState("20 + 20 + 1 symbols", gimlet, () -> gimlet.union(twenty, twenty));
        Check.illegalState("intersection", gimlet, () -> gimlet.intersection(twenty, twenty));
        Check.illegalState("difference", gimlet, () -> gimlet.difference(largest, 0));
        Check.illegalState("symmetric", gimlet, () -> gimlet.symmetric(0, largest));
        Check.outOfBounds("no such term goes first", gimlet, () -> gimlet.union(largest, 99));
        Check.due("terms()", gimlet.terms(), 41);
    }

    private static void termLimit() {
        Gimlet gimlet = Check.full();
        Check.due("terms of the full object", gimlet.terms(), 120);
        Check.due("a known letter", gimlet.letter(3), 3);
        Check.due("the known empty set", gimlet.empty(), 4);
        Check.due("the known universe", gimlet.universe(), 5);
        Check.due("a known complement", gimlet.complement(0), 114);
        Check.due("a known union", gimlet.union(0, 0), 6);
        Check.illegalState("complement", gimlet, () -> gimlet.complement(119));
        Check.illegalState("union", gimlet, () -> gimlet.union(119, 0));
        Check.illegalState("intersection", gimlet, () -> gimlet.intersection(119, 0));
        Check.illegalState("difference", gimlet, () -> gimlet.difference(119, 0));
        Check.illegalState("symmetric", gimlet, () -> gimlet.symmetric(0, 1));
        Check.outOfBounds("complement of no term", gimlet, () -> gimlet.complement(120));
        Check.outOfBounds("symmetric of no term", gimlet, () -> gimlet.symmetric(0, 120));
        Check.illegalArgument("letter(4)", gimlet, () -> gimlet.letter(4));

        Gimlet deep = withoutLeaves();
        Check.due("terms without b and the constants", deep.terms(), 120);
        Check.illegalState("letter(1)", deep, () -> deep.letter(1));
        Check.illegalState("empty()", deep, deep::empty);
        Check.illegalState("universe()", deep, deep::universe);
        Check.illegalArgument("letter(-1)", deep, () -> deep.letter(-1));
    }

    /** 120 terms of the letter a alone. */
    private static Gimlet withoutLeaves() {
        Gimlet gimlet = new Gimlet();
        gimlet.letter(0);
        for (int size = 2; size <= 20; size++) {
            gimlet.complement(size - 2);
        }
        for (int left = 0; gimlet.terms() < 120; left++) {
            for (int right = 0; right < 19 && gimlet.terms() < 120; right++) {
                gimlet.union(left, right);
            }
        }
        return gimlet;
    }

    /** A term that a method makes comes behind the terms in it, those of the left one first. */
    private static void order() {
        Gimlet gimlet = new Gimlet();
        int term = Check.make(gimlet, "CISbCaCSbCa");
        Check.due("first", Check.text(gimlet, term), "CISbCaCSbCa");
        int made = gimlet.step(term);
        Check.due("the step's term", Check.text(gimlet, made), "UCSbCaCCSbCa");
        String[] known = {"b", "a", "Ca", "SbCa", "CSbCa", "ISbCaCSbCa", "CISbCaCSbCa", "CCSbCa", "UCSbCaCCSbCa"};
        Check.due("terms()", gimlet.terms(), known.length);
        for (int number = 0; number < known.length; number++) {
            Check.due("term " + number, Check.text(gimlet, number), known[number]);
        }
    }
}
