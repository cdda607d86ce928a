/** The edges of promises 17 to 20, and of the sections on rules and steps. */
final class RewritingBoundaries {

    /** Terms in which no rule can rewrite anything, though some look as if one could. */
    private static final String[] NORMAL = {
        "a", "d", "0", "1", "Ca", "Cd", "Uab", "Iab", "IaCb", "UCab", "UIabCa", "IUabUba", "UIabIba", "UUabUba",
        "IIabc", "UaUab", "IaIab", "UaIab", "IaUCab", "UCaCb",
    };

    private RewritingBoundaries() {
    }

    static void run() {
        rules();
        ruleOrder();
        nearMisses();
        firstPlace();
        sizeOfSteps();
        fullSteps();
        untilNoRule();
        nextRule();
        step();
        stepRefused();
        steps();
        normalForm();
        normalFormRefused();
    }

    /** The rule of the next step, and what the step makes. */
    private static void rewrites(String text, char rule, String made) {
        Gimlet gimlet = new Gimlet();
        int term = Check.make(gimlet, text);
        Check.due("rule of " + text, Check.outcome(() -> gimlet.rule(term)), rule);
        Object step = Check.outcome(() -> gimlet.step(term));
        Check.due("step of " + text, step instanceof Integer ? Check.text(gimlet, (Integer) step) : step, made);
    }

    private static void isNormal(String text) {
        Gimlet gimlet = new Gimlet();
        int term = Check.make(gimlet, text);
        Check.noSuchElement("rule of " + text, gimlet, () -> gimlet.rule(term));
        Check.due("steps of " + text, gimlet.steps(term), 0);
        Check.due("normal form of " + text, gimlet.normalForm(term), term);
    }

    private static void rules() {
        Sentences.about(0, "The rules have letters and are, in this order");
        rewrites("CCa", 'n', "a");
        rewrites("C0", 'e', "1");
        rewrites("C1", 'v', "0");
        rewrites("CUab", 'u', "ICaCb");
        rewrites("CIab", 'i', "UCaCb");
        rewrites("Dab", 'd', "IaCb");
        rewrites("Sab", 's', "UDabDba");
        // On either side, and on both.
        for (String other : new String[] {"b", "Ca", "Uab"}) {
            rewrites("I0" + other, 'z', "0");
            rewrites("I" + other + "0", 'z', "0");
            rewrites("I1" + other, 'o', other);
            rewrites("I" + other + "1", 'o', other);
            rewrites("U0" + other, 'y', other);
            rewrites("U" + other + "0", 'y', other);
            rewrites("U1" + other, 't', "1");
            rewrites("U" + other + "1", 't', "1");
            rewrites("I" + other + other, 'p', other);
            rewrites("U" + other + other, 'p', other);
            rewrites("I" + other + "C" + other, 'c', "0");
            rewrites("IC" + other + other, 'c', "0");
            rewrites("U" + other + "C" + other, 'c', "1");
            rewrites("UC" + other + other, 'c', "1");
        }
    }

    /** Every two rules that can rewrite the same place. */
    private static void ruleOrder() {
        Sentences.about(0, "by the first such rule");
        rewrites("I01", 'z', "0");
        rewrites("I10", 'z', "0");
        rewrites("I00", 'z', "0");
        rewrites("I0C0", 'z', "0");
        rewrites("IC00", 'z', "0");
        rewrites("I11", 'o', "1");
        rewrites("I1C1", 'o', "C1");
        rewrites("IC11", 'o', "C1");
        rewrites("U01", 'y', "1");
        rewrites("U10", 'y', "1");
        rewrites("U00", 'y', "0");
        rewrites("U0C0", 'y', "C0");
        rewrites("UC00", 'y', "C0");
        rewrites("U11", 't', "1");
        rewrites("U1C1", 't', "1");
        rewrites("UC11", 't', "1");
    }

    private static void nearMisses() {
        Sentences.about(0, "A rule rewrites a term");
        for (String text : NORMAL) {
            isNormal(text);
        }
        // The same regions, but not the same symbols: neither 'z', 'o', 'y', 't', 'p' nor 'c'.
        rewrites("IaDbb", 'd', "IaIbCb");
        rewrites("IaUbCb", 'c', "Ia1");
        rewrites("UaIbCb", 'c', "Ua0");
        rewrites("UaCCa", 'n', "Uaa");
        rewrites("ICaCCb", 'n', "ICab");
        rewrites("UUabCUba", 'u', "UUabICbCa");
        rewrites("CDab", 'd', "CIaCb");
        rewrites("CSab", 's', "CUDabDba");
        rewrites("Saa", 's', "UDaaDaa");
        rewrites("Daa", 'd', "IaCa");
        rewrites("S0a", 's', "UD0aDa0");
        rewrites("Da1", 'd', "IaC1");
    }

    private static void firstPlace() {
        Sentences.about(0, "A step rewrites one place of a term: the first one, in the order of the symbols");
        // The first symbol and the last one that a rule can rewrite from.
        rewrites("ISabSab", 'p', "Sab");
        rewrites("IC0C0", 'p', "C0");
        rewrites("IDabC0", 'd', "IIaCbC0");
        rewrites("IaC0", 'e', "Ia1");
        rewrites("UaUbUcC1", 'v', "UaUbUc0");
        rewrites("UCCaCCb", 'n', "UaCCb");
        rewrites("UaSCCbCCc", 's', "UaUDCCbCCcDCCcCCb");
        rewrites("ICCaI0b", 'n', "IaI0b");
        rewrites("UI0bCCa", 'z', "U0CCa");
        rewrites("CUCCaCCb", 'u', "ICCCaCCCb");
        String inner = Scripts.normal(37);
        rewrites("U" + inner + "C0", 'e', "U" + inner + "1");
        rewrites("I" + inner + "C1", 'v', "I" + inner + "0");
        rewrites("UC0" + inner, 'e', "U1" + inner);
    }

    private static void sizeOfSteps() {
        Sentences.about(0, "A step can be made if the size of the term behind it is not greater than 40");
        grows("D", 37, 39);
        grows("D", 38, 40);
        grows("D", 39, 41);
        grows("CU", 36, 39);
        grows("CU", 37, 40);
        grows("CU", 38, 41);
        grows("CI", 36, 39);
        grows("CI", 37, 40);
        grows("CI", 38, 41);
        grows("S", 18, 39);
        grows("S", 19, 41);
        grows("CS", 17, 38);
        grows("CS", 18, 40);
        grows("UaS", 17, 39);
        grows("UaS", 18, 41);
        grows("UCaS", 17, 40);
        grows("UCaS", 18, 42);
        grows("S", 39, 81);
        String most = Scripts.normal(38);
        rewrites("CC" + most, 'n', most);
        rewrites("I" + most + "0", 'z', "0");
        rewrites("I1" + most, 'o', most);
        rewrites("U" + most + "0", 'y', most);
        rewrites("U1" + most, 't', "1");
        String half = Scripts.normal(18);
        rewrites("UCaI" + half + half, 'p', "UCa" + half);
        rewrites("UaI" + half + "C" + half, 'c', "Ua0");
        rewrites("U" + Scripts.normal(37) + "C1", 'v', "U" + Scripts.normal(37) + "0");
    }

    /** A term with a left and a right one of so many symbols together, whose step makes so many symbols. */
    private static void grows(String head, int symbols, int behind) {
        for (int left : new int[] {1, symbols / 2, symbols - 1}) {
            String text = head + Scripts.complements(left, 'a') + Scripts.complements(symbols - left, 'b');
            Gimlet gimlet = new Gimlet();
            int term = Check.make(gimlet, text);
            char rule = gimlet.rule(term);
            if (behind <= 40) {
                Check.due(rule + " from " + text.length() + " symbols", gimlet.size(gimlet.step(term)), behind);
                Check.holds("steps of " + text, gimlet.steps(term) > 0);
            } else {
                Check.unsupported(rule + " from " + text.length() + " symbols", gimlet, () -> gimlet.step(term));
                Check.due("steps of " + text, gimlet.steps(term), 0);
                Check.unsupported("normal form of " + text, gimlet, () -> gimlet.normalForm(term));
            }
        }
    }

    private static void fullSteps() {
        Sentences.about(0, "however many terms are known");
        for (String text : new String[] {"Sab", "CSab", "CUIabc", "DDabDcd"}) {
            Gimlet empty = new Gimlet();
            int term = Check.make(empty, text);
            Gimlet full = Scripts.withRoom(text, 0).play();
            Check.due("terms", full.terms(), 120);
            Check.due("the term", Check.text(full, term), text);
            Check.due("steps of " + text, full.steps(term), empty.steps(term));
            Check.due("rule of " + text, full.rule(term), empty.rule(term));
            // The step can be made, but the term behind it can't.
            Check.illegalState("step of " + text, full, () -> full.step(term));
            Check.illegalState("normal form of " + text, full, () -> full.normalForm(term));
        }
    }

    private static void untilNoRule() {
        Sentences.about(0, "The normal form of a term is found by steps until no rule can rewrite anything in it");
        for (String text : new String[] {"a", "Cb", "CCa", "Sab", "CSab", "CUaDbc", "Dab", "SSabc",
            "CCCCCCa", "UaIbUcCc", "IaUbIcCc", "SaSab", "CDCaC1", "U0U0U0a", "I1I1I1C0"}) {
            Gimlet gimlet = new Gimlet();
            int term = Check.make(gimlet, text);
            int steps = gimlet.steps(term);
            int last = term;
            for (int step = 0; step < steps; step++) {
                Check.due("steps left of " + text, gimlet.steps(last), steps - step);
                last = gimlet.step(last);
            }
            int end = last;
            Check.due("steps left of " + text, gimlet.steps(end), 0);
            Check.noSuchElement("a rule behind all steps of " + text, gimlet, () -> gimlet.rule(end));
            Check.due("normal form of " + text, gimlet.normalForm(term), end);
            Check.due("regions of the normal form of " + text, gimlet.isEqual(term, end), true);
        }
        isNormal(Scripts.normal(39));
        isNormal(Scripts.normal(40));
    }

    private static void nextRule() {
        Sentences.about(17, "Returns the rule of the next step");
        Gimlet gimlet = Scripts.BUSY.play();
        Check.due("of DUabc", gimlet.rule(7), 'd');
        Check.due("of the term behind it", gimlet.rule(gimlet.complement(gimlet.step(7))), 'i');
        Sentences.about(17, "Returns the letter of the rule");
        Check.due("of the term 119", Scripts.FULL.play().rule(119), 'v');
        Check.due("of 2 symbols less 40", Scripts.CHAIN.play().rule(2), 'n');
        Check.due("of 40 symbols", Scripts.CHAIN.play().rule(39), 'n');
        Twins.changesNothing("rule", 'n', Scripts.CHAIN, twin -> twin.rule(39));
        Sentences.about(17, "Throws `IndexOutOfBoundsException`");
        new TermCall("rule", Gimlet::rule).refusesNoTerm();
        Sentences.about(17, "Throws `NoSuchElementException` if no rule can rewrite anything in it");
        for (int term = 0; term < 7; term++) {
            int normal = term;
            Twins.noSuchElement("rule(" + term + ")", Scripts.BUSY, twin -> twin.rule(normal));
        }
        for (int size : new int[] {1, 2, 3, 39, 40}) {
            Twins.Script script = Scripts.withRoom(Scripts.normal(size), 0);
            Twins.noSuchElement("rule of " + size + " symbols", script,
                    twin -> twin.rule(Check.make(twin, Scripts.normal(size))));
        }
    }

    private static void step() {
        Sentences.about(18, "Makes the term behind the next step");
        Gimlet gimlet = Scripts.BUSY.play();
        int made = gimlet.step(7);
        Check.due("its symbols", Check.text(gimlet, made), "IUabCc");
        Check.due("only one step", gimlet.terms(), 10);
        Sentences.about(18, "Returns the number of this term");
        Check.due("a new term", made, 9);
        Check.due("the same step again", gimlet.step(7), 9);
        Twins.Script known = () -> Check.posed("sCCDabDab", "sI0bDab");
        Twins.changesNothing("a step to a known term", 2, known, twin -> twin.step(Check.make(twin, "CCDab")));
        Twins.changesNothing("a step to a known term behind", 5, known, twin -> twin.step(Check.make(twin, "I0b")));
        Twins.changesNothing("a known step with 120 terms", 4, Scripts.FULL, twin -> twin.step(119));
        Twins.changesNothing("a known step from 40 symbols", 37, Scripts.CHAIN, twin -> twin.step(39));
        Sentences.about(18, "Throws `IndexOutOfBoundsException`");
        new TermCall("step", Gimlet::step).refusesNoTerm();
        Sentences.about(18, "Throws `NoSuchElementException` if no rule can rewrite anything in it");
        for (int term = 0; term < 7; term++) {
            int normal = term;
            Twins.noSuchElement("step(" + term + ")", Scripts.BUSY, twin -> twin.step(normal));
            Twins.noSuchElement("step(" + term + ") with 120 terms", Scripts.FULL, twin -> twin.step(normal % 6));
        }
        for (int size : new int[] {39, 40}) {
            Twins.noSuchElement("step of " + size + " symbols", Scripts.withRoom(Scripts.normal(size), 0),
                    twin -> twin.step(Check.make(twin, Scripts.normal(size))));
        }
    }

    private static void stepRefused() {
        Sentences.about(18, "Throws `UnsupportedOperationException` if the step can't be made");
        String[] heads = {"D", "CU", "CI", "S", "UaS", "ICaS"};
        int[] symbols = {39, 38, 38, 19, 18, 18};
        for (int index = 0; index < heads.length; index++) {
            int half = symbols[index] / 2;
            String text = heads[index] + Scripts.complements(half, 'a')
                    + Scripts.complements(symbols[index] - half, 'b');
            for (int room : new int[] {0, 1, 50}) {
                Twins.unsupported("step to 41 symbols, room for " + room, Scripts.withRoom(text, room),
                        twin -> twin.step(Check.make(twin, text)));
            }
        }
        Sentences.about(18, "Throws `IllegalStateException` if the term can't be made");
        room("Sab", 3, Gimlet::step);
        room("Dab", 2, Gimlet::step);
        room("CUab", 3, Gimlet::step);
        room("CIab", 3, Gimlet::step);
        room("CUaCa", 2, Gimlet::step);
        room("C0", 1, Gimlet::step);
        room("C1", 1, Gimlet::step);
        room("UaCUab", 4, Gimlet::step);
        room("UaIbCb", 2, Gimlet::step);
        room("UaI0b", 1, Gimlet::step);
        String most = "D" + Scripts.complements(19, 'a') + Scripts.complements(19, 'b');
        room(most, 2, Gimlet::step);
    }

    private interface Maker {
        int make(Gimlet gimlet, int term);
    }

    /** So many terms become known if there is room for them; with room for one less, none. */
    private static void room(String text, int need, Maker maker) {
        Gimlet fits = Scripts.withRoom(text, need).play();
        int term = Check.make(fits, text);
        Check.due("of " + text + " with room for " + need, maker.make(fits, term), 119);
        Check.due("terms()", fits.terms(), 120);
        Gimlet more = Scripts.withRoom(text, need + 1).play();
        Check.due("of " + text + " with room for more", maker.make(more, term), 118);
        for (int room = 0; room < need; room++) {
            Twins.illegalState("of " + text + " with room for " + room + " of " + need, Scripts.withRoom(text, room),
                    twin -> maker.make(twin, term));
        }
    }

    private static void steps() {
        Sentences.about(19, "can be made one after the other from a term on; no term is made");
        Twins.changesNothing("steps of a letter", 0, Scripts.BUSY, twin -> twin.steps(0));
        Twins.changesNothing("steps of DUabc", 1, Scripts.BUSY, twin -> twin.steps(7));
        Twins.changesNothing("steps with 120 terms", 1, Scripts.FULL, twin -> twin.steps(119));
        for (int term = 0; term < 40; term++) {
            Check.due("steps of " + (term + 1) + " symbols", Scripts.CHAIN.play().steps(term), term / 2);
        }
        Twins.changesNothing("steps of 40 symbols", 19, Scripts.CHAIN, twin -> twin.steps(39));
        Sentences.about(19, "Returns the number of steps.");
        for (String text : NORMAL) {
            isNormal(text);
        }
        counted("Sab", 3);
        counted("CSab", 8);
        counted("Daa", 2);
        counted("CCCCa", 2);
        // The first step that can't be made ends the count, whatever could be made behind it.
        counted("D" + Scripts.complements(20, 'a') + Scripts.complements(19, 'b'), 0);
        counted("CD" + Scripts.normal(18) + Scripts.normal(20), 0);
        counted("CD" + Scripts.normal(18) + Scripts.normal(19), 1);
        counted("UCCaS" + Scripts.normal(9) + Scripts.normal(9), 1);
        Sentences.about(19, "Throws `IndexOutOfBoundsException`");
        new TermCall("steps", Gimlet::steps).refusesNoTerm();
    }

    private static void counted(String text, int steps) {
        Gimlet gimlet = new Gimlet();
        Check.due("steps of " + text, gimlet.steps(Check.make(gimlet, text)), steps);
    }

    private static void normalForm() {
        Sentences.about(20, "the terms between are not made");
        Gimlet gimlet = Scripts.SILENT.play();
        int term = Check.make(gimlet, "CSab");
        int before = gimlet.terms();
        Check.due("behind eight steps", Check.text(gimlet, gimlet.normalForm(term)), "IUCabUCba");
        Check.due("terms: Ca, UCab, Cb, UCba and both", gimlet.terms(), before + 5);
        room("CSab", 5, Gimlet::normalForm);
        room("Sab", 5, Gimlet::normalForm);
        Sentences.about(20, "Returns the number of the normal form");
        for (int number = 0; number < 7; number++) {
            int normal = number;
            Twins.changesNothing("of a normal form", normal, Scripts.BUSY, twin -> twin.normalForm(normal));
        }
        for (int number = 0; number < 6; number++) {
            int normal = number;
            Twins.changesNothing("of a normal form among 120", normal, Scripts.FULL, twin -> twin.normalForm(normal));
        }
        Twins.changesNothing("of a term with a known one, behind the last step", 4, Scripts.FULL,
                twin -> twin.normalForm(119));
        Twins.changesNothing("of 40 symbols", 1, Scripts.CHAIN, twin -> twin.normalForm(39));
        Twins.changesNothing("of 39 symbols", 0, Scripts.CHAIN, twin -> twin.normalForm(38));
        // The terms between would not have found room, but the normal form is known.
        Twins.changesNothing("known behind unknown ones", 0, Scripts.withRoom("DSaSabSab", 0),
                twin -> twin.normalForm(Check.make(twin, "a")));
    }

    private static void normalFormRefused() {
        Sentences.about(20, "Throws `IndexOutOfBoundsException`");
        new TermCall("normalForm", Gimlet::normalForm).refusesNoTerm();
        Sentences.about(20, "Throws `UnsupportedOperationException` if one of the steps to it can't be made");
        String[] texts = {
            "S" + Scripts.normal(9) + Scripts.normal(10),
            "D" + Scripts.normal(19) + Scripts.normal(20),
            "CD" + Scripts.normal(18) + Scripts.normal(19),
            "UCCaS" + Scripts.normal(9) + Scripts.normal(9),
        };
        for (String text : texts) {
            for (int room : new int[] {0, 1, 40}) {
                Twins.unsupported("normal form of " + text + ", room for " + room, Scripts.withRoom(text, room),
                        twin -> twin.normalForm(Check.make(twin, text)));
            }
        }
        Gimlet gimlet = new Gimlet();
        int largest = Check.make(gimlet, "D" + Scripts.normal(37) + "a");
        Check.due("a normal form of 40 symbols", gimlet.size(gimlet.normalForm(largest)), 40);
        Sentences.about(20, "Throws `IllegalStateException` if the term can't be made");
        room("Dab", 2, Gimlet::normalForm);
        room("CUab", 3, Gimlet::normalForm);
        room("CDab", 2, Gimlet::normalForm);
        room("C0", 1, Gimlet::normalForm);
        room("CCC0", 1, Gimlet::normalForm);
    }
}
