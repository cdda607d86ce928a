/** The edges of promises 1 to 12, and of the sections on terms and on their numbers. */
final class TermBoundaries {

    private interface Pair {
        int make(Gimlet gimlet, int left, int right);
    }

    private static final String[] PAIR_NAMES = {"union", "intersection", "difference", "symmetric"};
    private static final Pair[] PAIRS = {
        Gimlet::union, Gimlet::intersection, Gimlet::difference, Gimlet::symmetric,
    };
    private static final int FIRST_PAIR = 6;

    private TermBoundaries() {
    }

    static void run() {
        lastCall();
        newObject();
        letters();
        empties();
        universes();
        complements();
        for (int pair = 0; pair < PAIRS.length; pair++) {
            pairs(FIRST_PAIR + pair, PAIR_NAMES[pair], "UIDS".charAt(pair), PAIRS[pair]);
        }
        counts();
        sizes();
        symbols();
        kinds();
        sameTerms();
        numbers();
        order();
        limits();
    }

    private static void lastCall() {
        Sentences.about(0, "at most 512 calls");
        Gimlet asked = Scripts.BUSY.play();
        Gimlet refused = new Gimlet();
        Gimlet made = new Gimlet();
        // 15 calls have made the busy object.
        for (int call = 15 + 1; call < 512; call++) {
            asked.models(3);
        }
        for (int call = 1; call < 512; call++) {
            Check.outcome(() -> refused.letter(4));
            made.letter(call % 4);
        }
        Check.due("models(1) as the last call", asked.models(1), 0L);
        Check.due("letter(2) as the last call", refused.letter(2), 0);
        Check.due("terms() as the last call", made.terms(), 4);
    }

    private static void newObject() {
        Sentences.about(1, "without terms, assumptions and goal");
        Gimlet gimlet = new Gimlet();
        Check.due("terms()", gimlet.terms(), 0);
        Check.due("assumptions()", gimlet.assumptions(), 0);
        Check.due("isConsistent()", gimlet.isConsistent(), true);
        Check.due("models(0)", gimlet.models(0), 1L);
        Check.due("models(6)", gimlet.models(6), 16777216L);
        Check.due("modelsByTrying(0)", gimlet.modelsByTrying(0), 1L);
        Check.due("modelsByTrying(3)", gimlet.modelsByTrying(3), 4096L);
        Check.outOfBounds("size(0)", gimlet, () -> gimlet.size(0));
        Check.illegalState("drop()", gimlet, gimlet::drop);
        Check.illegalState("follows()", gimlet, gimlet::follows);
        Check.noSuchElement("deniedBy(0)", gimlet, () -> gimlet.deniedBy(0));
        Check.due("the first term", gimlet.universe(), 0);
        Check.due("the first assumption", gimlet.assume('s', 0, 0), 0);
        Check.due("a goal before the first", gimlet.setGoal('s', 0, 0), false);
        Gimlet other = new Gimlet();
        Check.due("terms() of another one", other.terms(), 0);
        Check.due("assumptions() of another one", other.assumptions(), 0);
        Check.illegalState("follows() of another one", other, other::follows);
    }

    private static void letters() {
        Sentences.about(2, "Makes the term that is a letter");
        for (int letter = 0; letter < 4; letter++) {
            Gimlet gimlet = new Gimlet();
            int term = gimlet.letter(letter);
            Check.due("symbols of letter " + letter, Check.text(gimlet, term), "" + (char) ('a' + letter));
        }
        Sentences.about(2, "Returns the number of the term");
        Gimlet gimlet = new Gimlet();
        Check.due("the letter 3 first", gimlet.letter(3), 0);
        Check.due("the letter 0 next", gimlet.letter(0), 1);
        Check.due("the letter 3 again", gimlet.letter(3), 0);
        for (int letter = 0; letter < 4; letter++) {
            int known = letter;
            Twins.changesNothing("a known letter of 120 terms", letter, Scripts.FULL, twin -> twin.letter(known));
        }
        Sentences.about(2, "Throws `IllegalArgumentException` if the letter is not between 0 and 3");
        for (int letter : new int[] {-1, 4, 5, 97, 256, Integer.MIN_VALUE, Integer.MAX_VALUE}) {
            Twins.illegalArgument("letter(" + letter + ")", Scripts.NEW, twin -> twin.letter(letter));
            Twins.illegalArgument("letter(" + letter + ")", Scripts.BUSY, twin -> twin.letter(letter));
        }
        Sentences.about(2, "Throws `IllegalStateException`");
        Check.due("the letter b as the term 119", Scripts.onlyA(119).letter(1), 119);
        for (int letter = 1; letter < 4; letter++) {
            int unknown = letter;
            Twins.illegalState("a new letter of 120 terms", Scripts.ONLY_A, twin -> twin.letter(unknown));
        }
        Check.due("the known letter of 120 terms", Scripts.ONLY_A.play().letter(0), 0);
    }

    private static void empties() {
        Sentences.about(3, "Makes the empty set");
        Gimlet gimlet = new Gimlet();
        Check.due("symbols", Check.text(gimlet, gimlet.empty()), "0");
        Sentences.about(3, "Returns the number of the term");
        Check.due("the first term", new Gimlet().empty(), 0);
        Check.due("a known one", gimlet.empty(), 0);
        Twins.changesNothing("the known one of 120 terms", 4, Scripts.FULL, Gimlet::empty);
        Sentences.about(3, "Throws `IllegalStateException`");
        Check.due("the term 119", Scripts.onlyA(119).empty(), 119);
        Twins.illegalState("empty() with 120 terms", Scripts.ONLY_A, Gimlet::empty);
    }

    private static void universes() {
        Sentences.about(4, "Makes the universe");
        Gimlet gimlet = new Gimlet();
        Check.due("symbols", Check.text(gimlet, gimlet.universe()), "1");
        Sentences.about(4, "Returns the number of the term");
        Check.due("the first term", new Gimlet().universe(), 0);
        Check.due("a known one", gimlet.universe(), 0);
        Twins.changesNothing("the known one of 120 terms", 5, Scripts.FULL, Gimlet::universe);
        Sentences.about(4, "Throws `IllegalStateException`");
        Check.due("the term 119", Scripts.onlyA(119).universe(), 119);
        Twins.illegalState("universe() with 120 terms", Scripts.ONLY_A, Gimlet::universe);
    }

    private static void complements() {
        Sentences.about(5, "Makes a complement");
        for (String text : new String[] {"a", "0", "1", "Ca", "Uab", "Sab"}) {
            Gimlet gimlet = new Gimlet();
            int term = Check.make(gimlet, text);
            Check.due("complement of " + text, Check.text(gimlet, gimlet.complement(term)), "C" + text);
        }
        Sentences.about(5, "Returns the number of the complement");
        Gimlet gimlet = Scripts.BUSY.play();
        Check.due("of the first term", gimlet.complement(0), 8);
        Check.due("of the last term", gimlet.complement(8), 9);
        Check.due("a known one", gimlet.complement(0), 8);
        Twins.changesNothing("a known one of 120 terms", 114, Scripts.FULL, twin -> twin.complement(0));
        Twins.changesNothing("a known one of 40 symbols", 39, Scripts.CHAIN, twin -> twin.complement(38));
        Sentences.about(5, "Throws `IndexOutOfBoundsException` if there is no such term");
        new TermCall("complement", Gimlet::complement).refusesNoTerm();
        Twins.outOfBounds("no such term and 120 terms", Scripts.FULL, twin -> twin.complement(120));
        Sentences.about(5, "Throws `IllegalStateException`");
        Gimlet chain = Scripts.onlyA(20);
        for (int term = 19; term < 39; term++) {
            Check.due("complement of " + (term + 1) + " symbols", chain.complement(term), term + 1);
        }
        Twins.illegalState("complement of 40 symbols", Scripts.CHAIN, twin -> twin.complement(39));
        Check.due("the term 119", Scripts.onlyA(119).complement(118), 119);
        Twins.illegalState("complement with 120 terms", Scripts.ONLY_A, twin -> twin.complement(119));
        Twins.illegalState("a complement of no letter with 120 terms", Scripts.FULL, twin -> twin.complement(114));
    }

    private static void pairs(int promise, String name, char head, Pair pair) {
        Sentences.about(promise, "Makes ");
        Gimlet gimlet = Scripts.SILENT.play();
        String[] texts = {"a", "b", "c", "d", "0", "1", "Uab", "DUabc"};
        for (int left : new int[] {0, 4, 7}) {
            for (int right : new int[] {0, 5, 7}) {
                Check.due(name, Check.text(gimlet, pair.make(gimlet, left, right)), head + texts[left] + texts[right]);
            }
        }
        Sentences.about(promise, "Returns the number of the ");
        Gimlet numbered = new Gimlet();
        numbered.letter(0);
        numbered.letter(1);
        Check.due(name + "(0, 1)", pair.make(numbered, 0, 1), 2);
        Check.due(name + "(1, 0) is another term", pair.make(numbered, 1, 0), 3);
        Check.due(name + "(0, 0)", pair.make(numbered, 0, 0), 4);
        Check.due(name + "(4, 4), of the last term", pair.make(numbered, 4, 4), 5);
        Check.due(name + "(0, 1) again", pair.make(numbered, 0, 1), 2);
        noSuchSide(promise, name, pair);
        noSuchPair(promise, name, pair);
    }

    private static void noSuchSide(int promise, String name, Pair pair) {
        Sentences.about(promise, "Throws `IndexOutOfBoundsException` if there is no such term, for either");
        new TermCall(name + " left", (twin, term) -> pair.make(twin, term, 0)).refusesNoTerm();
        new TermCall(name + " right", (twin, term) -> pair.make(twin, 0, term)).refusesNoTerm();
        new TermCall(name + " both", (twin, term) -> pair.make(twin, term, term)).refusesNoTerm();
        Twins.outOfBounds(name + " of a term that is too large", Scripts.CHAIN, twin -> pair.make(twin, 39, 40));
        Twins.outOfBounds(name + " with a term that is too large", Scripts.CHAIN, twin -> pair.make(twin, -1, 39));
    }

    private static void noSuchPair(int promise, String name, Pair pair) {
        Sentences.about(promise, "Throws `IllegalStateException`");
        for (int left = 1; left <= 38; left++) {
            Gimlet chain = Scripts.CHAIN.play();
            int made = pair.make(chain, left - 1, 39 - left - 1);
            Check.due(name + " of " + left + " and " + (39 - left) + " symbols", made, 40);
            Check.due("its size", chain.size(made), 40);
            Check.due("it again", pair.make(chain, left - 1, 39 - left - 1), 40);
        }
        for (int left = 1; left <= 39; left += left == 1 || left == 19 || left == 38 ? 1 : 17) {
            int first = left - 1;
            int second = 40 - left - 1;
            Twins.illegalState(name + " of " + left + " and " + (40 - left) + " symbols", Scripts.CHAIN,
                    twin -> pair.make(twin, first, second));
        }
        Twins.illegalState(name + " of 40 and 40 symbols", Scripts.CHAIN, twin -> pair.make(twin, 39, 39));
        Twins.illegalState(name + " of 40 and 1 symbols", Scripts.CHAIN, twin -> pair.make(twin, 39, 0));
        Twins.illegalState(name + " of 1 and 40 symbols", Scripts.CHAIN, twin -> pair.make(twin, 0, 39));
        Gimlet room = Scripts.onlyA(119);
        Check.due(name + " as the term 119", pair.make(room, 118, 0), 119);
        Check.due("terms()", room.terms(), 120);
        Check.due("the known term 119", pair.make(room, 118, 0), 119);
        Twins.illegalState(name + " with 120 terms", Scripts.ONLY_A, twin -> pair.make(twin, 119, 0));
        Twins.illegalState(name + " of the last term with 120 terms", Scripts.FULL, twin -> pair.make(twin, 0, 119));
    }

    private static void counts() {
        Sentences.about(10, "Returns the number of terms that are known");
        Gimlet gimlet = new Gimlet();
        Check.due("of a new object", gimlet.terms(), 0);
        gimlet.letter(0);
        Check.due("behind one term", gimlet.terms(), 1);
        gimlet.letter(0);
        Check.due("behind the same term", gimlet.terms(), 1);
        Check.outcome(() -> gimlet.letter(4));
        Check.due("behind a refused term", gimlet.terms(), 1);
        gimlet.assume('s', 0, 0);
        gimlet.drop();
        Check.due("behind an assumption", gimlet.terms(), 1);
        Sentences.about(10, "Returns the number of terms.");
        Check.due("of 119", Scripts.onlyA(119).terms(), 119);
        Check.due("of 120", Scripts.onlyA(120).terms(), 120);
        Twins.illegalState("beyond 120", Scripts.ONLY_A, Gimlet::universe);
    }

    private static void sizes() {
        Sentences.about(11, "Returns the size of a term");
        for (String text : new String[] {"a", "b", "c", "d", "0", "1"}) {
            Gimlet gimlet = new Gimlet();
            Check.due("the least size, of " + text, gimlet.size(Check.make(gimlet, text)), 1);
        }
        Sentences.about(11, "Returns the size.");
        Gimlet chain = Scripts.CHAIN.play();
        for (int term = 0; term < 40; term++) {
            Check.due("size of the term " + term, chain.size(term), term + 1);
        }
        Check.due("the size of a pair", chain.size(chain.difference(18, 19)), 40);
        Sentences.about(11, "Throws `IndexOutOfBoundsException`");
        new TermCall("size", Gimlet::size).refusesNoTerm();
    }

    private static void symbols() {
        Sentences.about(12, "Returns a symbol of a term; symbols are counted from 0");
        Gimlet one = Scripts.SILENT.play();
        Check.due("the symbol 0 of the term a", one.symbol(0, 0), 'a');
        Check.due("the symbol 0 of the term 0", one.symbol(4, 0), '0');
        Sentences.about(12, "Returns the symbol.");
        for (int size : new int[] {2, 3, 39, 40}) {
            Gimlet gimlet = new Gimlet();
            String text = Scripts.normal(size);
            int term = Check.make(gimlet, text);
            Check.due("the first symbol", gimlet.symbol(term, 0), text.charAt(0));
            Check.due("the last symbol but one", gimlet.symbol(term, size - 2), text.charAt(size - 2));
            Check.due("the last symbol", gimlet.symbol(term, size - 1), 'c');
        }
        Sentences.about(12, "Throws `IndexOutOfBoundsException`");
        new TermCall("symbol", (twin, term) -> twin.symbol(term, 0)).refusesNoTerm();
        for (int index : new int[] {-1, 1, 40, Integer.MIN_VALUE, Integer.MAX_VALUE}) {
            new TermCall("symbol " + index, (twin, term) -> twin.symbol(term, index)).refusesNoTerm();
        }
        Sentences.about(12, "Throws `NoSuchElementException`");
        for (int term : new int[] {0, 1, 38, 39}) {
            for (int index : new int[] {-1, term + 1, term + 2, 41, Integer.MIN_VALUE, Integer.MAX_VALUE}) {
                Twins.noSuchElement("symbol(" + term + ", " + index + ")", Scripts.CHAIN,
                        twin -> twin.symbol(term, index));
            }
        }
    }

    private static void kinds() {
        Sentences.about(0, "A term is one of the letters 0 to 3");
        String[] kinds = {"a", "b", "c", "d", "0", "1", "Ca", "Uab", "Iab", "Dab", "Sab"};
        Gimlet gimlet = new Gimlet();
        for (int kind = 0; kind < kinds.length; kind++) {
            int term = Check.make(gimlet, kinds[kind]);
            Check.due("each kind is a term of its own", term, kind);
            Check.due("its symbols", Check.text(gimlet, term), kinds[kind]);
        }
        Sentences.about(0, "Its size is the number of its symbols");
        for (String text : new String[] {"Cd", "UCd0", "IC10", "DUcd1", "SIabUCdc", "UUUabcd", "UaUbUcd", "SSabScd"}) {
            Gimlet other = new Gimlet();
            int term = Check.make(other, text);
            Check.due("size of " + text, other.size(term), text.length());
            Check.due("symbols of " + text, Check.text(other, term), text);
        }
    }

    private static void sameTerms() {
        Sentences.about(0, "Two terms with the same symbols are the same term");
        for (String text : new String[] {"a", "0", "1", "Cb", "Uab", "Iaa", "D01", "Sdc", "SCUabIcD1d"}) {
            Twins.Script script = () -> Check.posed("s" + text + "a", "e" + text + "b");
            Gimlet gimlet = script.play();
            int term = Check.make(gimlet, text);
            Twins.changesNothing("made again: " + text, term, script, twin -> Check.make(twin, text));
        }
        Gimlet gimlet = new Gimlet();
        int term = Check.make(gimlet, "CCDab");
        Check.due("a step to a known term", gimlet.step(term), Check.make(gimlet, "Dab"));
        Check.due("terms with the same regions are two", Check.make(gimlet, "IaCb"), 6);
        Check.due("terms()", gimlet.terms(), 7);
    }

    private static void numbers() {
        Sentences.about(0, "At most 120 terms are known, with the numbers 0 to n - 1");
        Gimlet gimlet = Check.full();
        Check.due("the first", Check.text(gimlet, 0), "a");
        Check.due("the seventh", Check.text(gimlet, 6), "Uaa");
        Check.due("the last but one", Check.text(gimlet, 118), "C0");
        Check.due("the last", Check.text(gimlet, 119), "C1");
        Check.due("terms()", gimlet.terms(), 120);
        for (int term = 0; term < 120; term += 17) {
            Check.due("a known term again", Check.make(gimlet, Check.text(gimlet, term)), term);
        }
        Twins.illegalState("a term more", Scripts.FULL, twin -> twin.symmetric(0, 0));
    }

    private static void order() {
        Sentences.about(0, "behind the terms of which it consists, those of the left term first");
        known("Sab", Gimlet::step, "a", "b", "Sab", "Dab", "Dba", "UDabDba");
        known("DUabIcd", Gimlet::step, "a", "b", "Uab", "c", "d", "Icd", "DUabIcd", "CIcd", "IUabCIcd");
        known("CUIabCc", Gimlet::step, "a", "b", "Iab", "c", "Cc", "UIabCc", "CUIabCc", "CIab", "CCc", "ICIabCCc");
        known("CIab", Gimlet::normalForm, "a", "b", "Iab", "CIab", "Ca", "Cb", "UCaCb");
        known("CDab", Gimlet::normalForm, "a", "b", "Dab", "CDab", "Ca", "UCab");
        known("Dab", Gimlet::normalForm, "a", "b", "Dab", "Cb", "IaCb");
        known("C0", Gimlet::step, "0", "C0", "1");
        known("CCa", Gimlet::step, "a", "Ca", "CCa");
    }

    private interface Maker {
        int make(Gimlet gimlet, int term);
    }

    /** The terms that are known behind the call, in their order. */
    private static void known(String text, Maker maker, String... terms) {
        Gimlet gimlet = new Gimlet();
        int made = maker.make(gimlet, Check.make(gimlet, text));
        Check.due("terms() behind " + text, gimlet.terms(), terms.length);
        for (int term = 0; term < terms.length && term < gimlet.terms(); term++) {
            Check.due("the term " + term + " behind " + text, Check.text(gimlet, term), terms[term]);
        }
        // What consists of known terms alone and is known itself gets no new number.
        Check.due("the made term again", maker.make(gimlet, Check.make(gimlet, text)), made);
        Check.due("terms() again", gimlet.terms(), terms.length);
    }

    private static void limits() {
        Sentences.about(0, "A term can't be made if its size is greater than 40, or if more than 120 terms");
        Gimlet both = Scripts.CHAIN.play();
        for (int left = 0; left < 30 && both.terms() < 119; left++) {
            for (int right = 0; right < 5 && both.terms() < 119; right++) {
                both.union(left, right);
            }
        }
        Check.due("119 terms", both.terms(), 119);
        Check.illegalState("41 symbols as the 120th term", both, () -> both.complement(39));
        Check.due("40 symbols as the 120th term", both.intersection(18, 19), 119);
        Check.due("40 symbols among 120 terms", both.size(119), 40);
        Check.illegalState("41 symbols as the 121st term", both, () -> both.complement(39));
        Check.illegalState("2 symbols as the 121st term", both, () -> both.symmetric(0, 0));
        Check.due("a known term of 40 symbols", both.complement(38), 39);
        Check.due("a known term of 1 symbol", both.letter(0), 0);
        // Each term within a made one counts: a step that needs three terms more.
        Check.due("a step with room for all three", Scripts.withRoom("Sab", 3).play().step(2), 119);
        Twins.illegalState("a step with room for two of three", Scripts.withRoom("Sab", 2), twin -> twin.step(2));
    }
}
