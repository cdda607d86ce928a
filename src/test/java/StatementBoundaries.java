/** The edges of promises 24 to 32, and of the section on statements. */
final class StatementBoundaries {

    private static final String KINDS = "sedxni";

    private interface Stating {
        Object state(Gimlet gimlet, char kind, int left, int right);
    }

    private StatementBoundaries() {
    }

    static void run() {
        kinds();
        sixAndNoGoal();
        eachModel();
        assume();
        noSuchStatement(24, "assume", Gimlet::assume);
        seventh();
        drop();
        assumptions();
        setGoal();
        noSuchStatement(27, "setGoal", Gimlet::setGoal);
        isConsistent();
        deniedBy();
        deniedByRefused();
        follows();
        why();
        whyRefused();
        witness();
        witnessRefused();
    }

    private static Gimlet posed(String assumptions, String goal) {
        return Check.posed(assumptions, goal);
    }

    /** In the empty universe, and with one element in each region. */
    private static void kinds() {
        Sentences.about(0, "A statement has a kind, a left and a right term");
        for (char kind : KINDS.toCharArray()) {
            boolean denies = "sed".indexOf(kind) >= 0;
            for (String sides : new String[] {"ab", "cd", "da", "0b", "b0", "1c", "c1", "11", "00", "aa", "aCa"}) {
                String statement = kind + sides;
                Gimlet none = posed(statement, "");
                Check.due(statement + " of no element", none.models(0), denies ? 1L : 0L);
                Check.due(statement + " of no element, by trying", none.modelsByTrying(0), denies ? 1L : 0L);
                for (int region = 0; region < 16; region++) {
                    boolean holds = holds(kind, sides, region);
                    // All other regions are denied, so that the one element is in this one.
                    Gimlet one = posed("d1C" + Scripts.single(region) + " " + statement, "");
                    Check.due(statement + " of an element in " + region, one.models(1), holds ? 1L : 0L);
                    Check.due(statement + " of an element in " + region, one.modelsByTrying(1), holds ? 1L : 0L);
                }
            }
        }
    }

    private static boolean holds(char kind, String sides, int region) {
        boolean left = Reference.covers(sides.substring(0, 1), region);
        boolean right = Reference.covers(sides.substring(1), region);
        switch (kind) {
            case 's':
                return !left || right;
            case 'e':
                return left == right;
            case 'd':
                return !left || !right;
            case 'x':
                return !holds('s', sides, region);
            case 'n':
                return !holds('e', sides, region);
            default:
                return !holds('d', sides, region);
        }
    }

    private static void sixAndNoGoal() {
        Sentences.about(0, "There are at most 6 assumptions, numbered from 0");
        Gimlet gimlet = Scripts.SILENT.play();
        for (int number = 0; number < 6; number++) {
            Check.due("an assumption", gimlet.assume('s', 4, number), number);
        }
        Check.illegalState("a seventh", gimlet, () -> gimlet.assume('s', 4, 0));
        Check.illegalState("no goal yet", gimlet, gimlet::follows);
        Check.due("no goal before the first", gimlet.setGoal('s', 0, 1), false);
        Check.due("a goal before the second", gimlet.setGoal('s', 0, 1), true);
        Check.due("the goal is no seventh assumption", gimlet.assumptions(), 6);
        Check.due("one is left out", gimlet.drop(), 5);
        Check.due("numbered again", gimlet.assume('i', 0, 0), 5);
    }

    private static void eachModel() {
        Sentences.about(0, "the goal follows if it holds for each model");
        Check.due("no assumption, all models", posed("", "s01").follows(), true);
        Check.due("one model does not do", posed("", "s10").follows(), false);
        for (char kind : KINDS.toCharArray()) {
            for (String sides : new String[] {"ab", "aa", "00", "11", "01", "10"}) {
                Check.due("no model: " + kind + sides, posed("n00", kind + sides).follows(), true);
                Check.due("no model of six: " + kind + sides,
                        posed("ia1 sab sbc scd i1a dad", kind + sides).follows(), true);
            }
        }
        Check.due("the empty model alone, a denial", posed("e10", "sab").follows(), true);
        Check.due("the empty model alone, a demand", posed("e10", "i11").follows(), false);
        Check.due("all six assumptions count", posed("sab sbc scd i11 i1d ia1", "iad").follows(), true);
        Check.due("with the sixth dropped", dropped("sab sbc scd i11 i1d ia1", "iad").follows(), false);
    }

    private static Gimlet dropped(String assumptions, String goal) {
        Gimlet gimlet = posed(assumptions, goal);
        gimlet.drop();
        return gimlet;
    }

    private static void assume() {
        Sentences.about(24, "Makes an assumption");
        for (char kind : KINDS.toCharArray()) {
            Gimlet gimlet = Scripts.SILENT.play();
            gimlet.assume(kind, 0, 1);
            Check.due("one assumption, " + kind, gimlet.assumptions(), 1);
            gimlet.setGoal(kind, 0, 1);
            Check.due("it holds, " + kind, gimlet.follows(), true);
            gimlet.drop();
            Check.due("it does not hold by itself, " + kind, gimlet.follows(), false);
            Check.due("the last of 120 terms, " + kind, Scripts.FULL.play().assume(kind, 119, 119), 2);
        }
        Sentences.about(24, "Returns the number of the assumption");
        for (char kind : KINDS.toCharArray()) {
            Gimlet gimlet = Scripts.SILENT.play();
            for (int number = 0; number < 6; number++) {
                Check.due("number of " + kind, gimlet.assume(kind, 0, 1), number);
            }
        }
    }

    private static void noSuchStatement(int promise, String name, Stating stating) {
        Sentences.about(promise, "Throws `IllegalArgumentException` if there is no such kind");
        int taken = 0;
        for (int code = 0; code <= Character.MAX_VALUE; code++) {
            char kind = (char) code;
            Gimlet gimlet = new Gimlet();
            gimlet.letter(0);
            Object outcome = Check.outcome(() -> stating.state(gimlet, kind, 0, 0));
            taken += "throws java.lang.IllegalArgumentException".equals(outcome) ? 0 : 1;
        }
        Check.due("kinds that are taken", taken, 6);
        for (char kind : ("rtfcwymohj" + "SEDXNI" + " 019\0\u0173\uffff").toCharArray()) {
            Twins.illegalArgument(name + " of kind " + (int) kind, Scripts.BUSY,
                    twin -> stating.state(twin, kind, 0, 1));
            Twins.illegalArgument(name + " of kind " + (int) kind + " and no term", Scripts.BUSY,
                    twin -> stating.state(twin, kind, 8, -1));
            Twins.illegalArgument(name + " of kind " + (int) kind + " with six", Scripts.SIX,
                    twin -> stating.state(twin, kind, 0, 8));
        }
        Twins.illegalArgument(name + " of no kind in a new object", Scripts.NEW,
                twin -> stating.state(twin, 'q', 0, 0));
        Sentences.about(promise, "Throws `IndexOutOfBoundsException` if there is no such term, for either");
        for (char kind : KINDS.toCharArray()) {
            new TermCall(name + " left", (twin, term) -> stating.state(twin, kind, term, 0)).refusesNoTerm();
            new TermCall(name + " right", (twin, term) -> stating.state(twin, kind, 0, term)).refusesNoTerm();
            new TermCall(name + " both", (twin, term) -> stating.state(twin, kind, term, term)).refusesNoTerm();
            Twins.outOfBounds(name + " left with six", Scripts.SIX, twin -> stating.state(twin, kind, 8, 0));
            Twins.outOfBounds(name + " right with six", Scripts.SIX, twin -> stating.state(twin, kind, 0, -1));
        }
    }

    private static void seventh() {
        Sentences.about(24, "Throws `IllegalStateException` if there are 6 assumptions");
        for (char kind : KINDS.toCharArray()) {
            Check.due("a sixth, " + kind, dropped("sab sbc scd i11 i1d ia1", "").assume(kind, 0, 1), 5);
            Twins.illegalState("a seventh, " + kind, Scripts.SIX, twin -> twin.assume(kind, 0, 1));
            Twins.illegalState("the sixth once more, " + kind, Scripts.SIX, twin -> twin.assume(kind, 4, 4));
        }
    }

    private static void drop() {
        Sentences.about(25, "Takes the last assumption away");
        // Each denies a region of its own.
        String[] denials = new String[6];
        for (int number = 0; number < 6; number++) {
            denials[number] = Scripts.none(15 - number);
        }
        Gimlet gimlet = posed(String.join(" ", denials), "");
        for (int left = 5; left >= 0; left--) {
            gimlet.drop();
            int gone = 15 - left;
            Check.noSuchElement("the region of the last one", gimlet, () -> gimlet.deniedBy(gone));
            Check.due("ways with " + left + " denials", gimlet.models(1), 16L - left);
            if (left > 0) {
                Check.due("the region of the first one", gimlet.deniedBy(15), 0);
                Check.due("the region of the one before", gimlet.deniedBy(16 - left), left - 1);
            }
        }
        Sentences.about(25, "Returns the number of assumptions that are left");
        Gimlet six = Scripts.SIX.play();
        for (int left = 5; left >= 0; left--) {
            Check.due("drop()", six.drop(), left);
            Check.due("assumptions()", six.assumptions(), left);
        }
        Sentences.about(25, "Throws `IllegalStateException` if there is none");
        Check.illegalState("behind the sixth drop()", six, six::drop);
        Check.due("the next one", six.assume('s', 0, 1), 0);
        Check.due("its drop()", six.drop(), 0);
        Twins.illegalState("drop() of a new object", Scripts.NEW, Gimlet::drop);
        Twins.illegalState("drop() without assumptions", Scripts.SILENT, Gimlet::drop);
        Twins.illegalState("drop() with a goal alone", () -> posed("", "sab"), Gimlet::drop);
    }

    private static void assumptions() {
        Sentences.about(26, "Returns the number of assumptions");
        Check.due("of a new object", new Gimlet().assumptions(), 0);
        Gimlet gimlet = Scripts.SILENT.play();
        gimlet.setGoal('s', 0, 1);
        Check.due("with a goal alone", gimlet.assumptions(), 0);
        for (int number = 1; number <= 6; number++) {
            gimlet.assume('s', 0, 1);
            Check.due("the same one again counts", gimlet.assumptions(), number);
        }
        Check.illegalState("a seventh", gimlet, () -> gimlet.assume('s', 0, 1));
        Check.due("behind the seventh", gimlet.assumptions(), 6);
        Twins.changesNothing("assumptions()", 6, Scripts.SIX, Gimlet::assumptions);
    }

    private static void setGoal() {
        Sentences.about(27, "Sets the goal");
        Gimlet gimlet = Scripts.SILENT.play();
        gimlet.setGoal('s', 4, 5);
        Check.due("the first goal", gimlet.follows(), true);
        gimlet.setGoal('s', 5, 4);
        Check.due("the second in its place", gimlet.follows(), false);
        gimlet.setGoal('x', 4, 5);
        Check.due("the third in its place", gimlet.follows(), false);
        gimlet.setGoal('e', 0, 0);
        Check.due("the fourth in its place", gimlet.follows(), true);
        Check.due("a goal is no assumption", gimlet.assumptions(), 0);
        Check.due("models(1)", gimlet.models(1), 16L);
        Gimlet full = Scripts.FULL.play();
        full.setGoal('d', 119, 119);
        Check.due("a goal of the last of 120 terms", full.follows(), true);
        Sentences.about(27, "Returns true if there was a goal before");
        for (char kind : KINDS.toCharArray()) {
            Gimlet fresh = Scripts.SILENT.play();
            Check.illegalArgument("a refused one", fresh, () -> fresh.setGoal('q', 0, 0));
            Check.outOfBounds("another refused one", fresh, () -> fresh.setGoal(kind, 0, 8));
            Check.due("the first " + kind, fresh.setGoal(kind, 0, 1), false);
            Check.due("the same again, " + kind, fresh.setGoal(kind, 0, 1), true);
            Check.due("another, " + kind, fresh.setGoal('s', 1, 0), true);
        }
        Gimlet six = Scripts.SIX.play();
        for (int left = 5; left >= 0; left--) {
            six.drop();
        }
        Check.due("drop() does not take the goal", six.setGoal('s', 0, 1), true);
    }

    private static void isConsistent() {
        Sentences.about(28, "Tells whether there is a model");
        Check.due("of a new object", new Gimlet().isConsistent(), true);
        Check.due("the empty universe alone", posed("e10", "").isConsistent(), true);
        Check.due("a demand in no region", posed("n00", "").isConsistent(), false);
        Check.due("a demand in all regions", posed("i11", "").isConsistent(), true);
        Check.due("a demand in all regions, which are denied", posed("i11 e10", "").isConsistent(), false);
        Sentences.about(28, "Returns true if there is one");
        String part = Scripts.some(5, 10, 15);
        String all = part + " " + Scripts.none(5) + " " + Scripts.none(10) + " " + Scripts.none(15);
        Check.due("no region is left", posed(all, "").isConsistent(), false);
        Check.due("one region is left", dropped(all, "").isConsistent(), true);
        Check.due("denied before it is demanded", posed("e10 i1a", "").isConsistent(), false);
        Check.due("the sixth demand", posed("i1a i1b i1c i1d sab n00", "").isConsistent(), false);
        Check.due("the first demand", posed("n00 i1b i1c i1d sab i11", "").isConsistent(), false);
        Check.due("six demands", posed("i1a i1b i1c i1d xab xba", "").isConsistent(), true);
        Check.due("the goal does not count", posed("i1a", "e10").isConsistent(), true);
    }

    private static void deniedBy() {
        Sentences.about(29, "Returns the first assumption by which no element can be in a region");
        for (int region = 0; region < 16; region++) {
            String denial = Scripts.none(region);
            String other = Scripts.none(15 - region);
            Check.due("the first", posed(denial, "").deniedBy(region), 0);
            Check.due("the first of two", posed(denial + " " + denial, "").deniedBy(region), 0);
            Check.due("behind another", posed(other + " " + denial, "").deniedBy(region), 1);
            Check.due("the last of six",
                    posed("i11 x10 " + other + " n10 " + other + " " + denial, "").deniedBy(region), 5);
            Check.due("by a subset", posed("s" + Scripts.single(region) + "0", "").deniedBy(region), 0);
            Check.due("by an equality", posed("e0" + Scripts.single(region), "").deniedBy(region), 0);
        }
        Sentences.about(29, "Returns the number of the assumption");
        Gimlet all = posed("i1a e10 e10", "");
        Check.due("the region 0", all.deniedBy(0), 1);
        Check.due("the region 15", all.deniedBy(15), 1);
        Twins.Script script = () -> posed("i1a e10", "");
        Twins.changesNothing("deniedBy(15)", 1, script, twin -> twin.deniedBy(15));
    }

    private static void deniedByRefused() {
        Sentences.about(29, "Throws `IllegalArgumentException` if the region is not between 0 and 15");
        for (int region : new int[] {-1, 16, 17, 32, -16, Integer.MIN_VALUE, Integer.MAX_VALUE}) {
            Twins.illegalArgument("no assumption, " + region, Scripts.NEW, twin -> twin.deniedBy(region));
            Twins.illegalArgument("three assumptions, " + region, Scripts.BUSY, twin -> twin.deniedBy(region));
            Twins.illegalArgument("six assumptions, " + region, Scripts.SIX, twin -> twin.deniedBy(region));
        }
        Sentences.about(29, "Throws `NoSuchElementException` if there is none");
        for (int number = 0; number < 16; number++) {
            int region = number;
            Twins.noSuchElement("no assumption, " + region, Scripts.NEW, twin -> twin.deniedBy(region));
            // All regions but this one are denied.
            Gimlet others = posed("d1C" + Scripts.single(region) + " x10 n10 i11", "s1" + Scripts.single(region));
            Check.noSuchElement("all others, " + region, others, () -> others.deniedBy(region));
            Check.due("another, " + region, others.deniedBy(15 - region), 0);
            Gimlet gone = dropped(Scripts.none(region), "");
            Check.noSuchElement("a dropped one, " + region, gone, () -> gone.deniedBy(region));
            Gimlet goal = posed("", Scripts.none(region));
            Check.noSuchElement("by the goal alone, " + region, goal, () -> goal.deniedBy(region));
        }
        Check.due("odd regions, by the first of BUSY", Scripts.BUSY.play().deniedBy(1), 0);
        Twins.noSuchElement("an even region", Scripts.BUSY, twin -> twin.deniedBy(0));
    }

    private static void follows() {
        Sentences.about(30, "Tells whether the goal follows");
        for (int region = 0; region < 16; region++) {
            String single = Scripts.single(region);
            Check.due("the one region that counts is not denied", posed("", "d1" + single).follows(), false);
            Check.due("it is denied", posed("d1" + single, "d1" + single).follows(), true);
            Check.due("it is demanded", posed("i1" + single, "i1" + single).follows(), true);
            Check.due("it is not demanded", posed("i11", "i1" + single).follows(), false);
            Check.due("all others are denied", posed("i11 d1C" + single, "i1" + single).follows(), true);
            Check.due("a demand outside", posed("i11", "i1C" + single).follows(), false);
        }
        Sentences.about(30, "Returns true if it does");
        Check.due("a goal that always holds", posed("", "sIabUcb").follows(), true);
        Check.due("two regions of a demand, one in the goal",
                posed(Scripts.some(0, 15), Scripts.some(0)).follows(), false);
        Check.due("two regions of a demand, both in the goal",
                posed(Scripts.some(0, 15), Scripts.some(0, 8, 15)).follows(), true);
        Check.due("one denied, one in the goal",
                posed(Scripts.some(0, 15) + " " + Scripts.none(15), Scripts.some(0)).follows(), true);
        Twins.changesNothing("follows()", false, Scripts.BUSY, Gimlet::follows);
        Sentences.about(30, "Throws `IllegalStateException` if there is no goal");
        refusesWithoutGoal(Gimlet::follows);
    }

    /** In a new object, with terms alone, and with assumptions, be there a model or none. */
    static void refusesWithoutGoal(Twins.Call call) {
        Twins.illegalState("a new object", Scripts.NEW, call);
        Twins.illegalState("terms alone", Scripts.SILENT, call);
        Twins.illegalState("assumptions", () -> posed("sab ibc", ""), call);
        Twins.illegalState("assumptions without model", () -> posed("n00", ""), call);
        Twins.illegalState("120 terms", Scripts.ONLY_A, call);
        Gimlet refused = Scripts.SILENT.play();
        Check.outOfBounds("a refused goal", refused, () -> refused.setGoal('i', 0, 8));
        Check.illegalState("behind a refused goal", refused, () -> call.on(refused));
    }

    private static void why() {
        Sentences.about(31, "Returns why the goal follows");
        Check.due("no assumption", posed("", "s01").why(), 'r');
        Check.due("six assumptions", posed("sab sbc scd i11 i1d ia1", "iad").why(), 'w');
        Twins.changesNothing("why()", 'r', () -> posed("sab", "sab"), Gimlet::why);
        Sentences.about(31, "Returns 'm' if there is no model; otherwise 'r'");
        for (char kind : KINDS.toCharArray()) {
            // Each of these goals would have a reason of its own, were there a model.
            Check.due("no model, " + kind, posed("n00", kind + "ab").why(), 'm');
            Check.due("no model, the same said, " + kind, posed(kind + "ab n00", kind + "ab").why(), 'm');
            Check.due("a model, the same said, " + kind, posed(kind + "ab", kind + "ab").why(),
                    "sed".indexOf(kind) >= 0 ? 'r' : 'w');
        }
        Check.due("the empty universe alone", posed("e10", "sab").why(), 'r');
        Check.due("a denial of no region", posed("i11", "e00").why(), 'r');
        Check.due("a demand in all regions", posed("iab", "i11").why(), 'w');
        Check.due("a denial, with demands too", posed("iab scd", "scd").why(), 'r');
        Check.due("a model again", dropped("sab n00", "sab").why(), 'r');
    }

    private static void whyRefused() {
        Sentences.about(31, "Throws `IllegalStateException` if there is no goal");
        refusesWithoutGoal(Gimlet::why);
        Sentences.about(31, "Throws `NoSuchElementException` if it does not follow");
        for (char kind : KINDS.toCharArray()) {
            Twins.noSuchElement("no assumption, " + kind, () -> posed("", kind + "ab"), Gimlet::why);
            Twins.noSuchElement("another one, " + kind, () -> posed("scd icd", kind + "ab"), Gimlet::why);
        }
        Twins.noSuchElement("three assumptions", Scripts.BUSY, Gimlet::why);
    }

    private static void witness() {
        Sentences.about(32, "Returns the first assumption that demands an element in some regions all of which");
        Check.due("all in the goal", posed("i1Iab", "iab").witness(), 0);
        Check.due("all denied", posed("iab dab", "icd").witness(), 0);
        Check.due("one denied, one in the goal",
                posed(Scripts.some(0, 15) + " " + Scripts.none(15), Scripts.some(0)).witness(), 0);
        Check.due("in no region at all", posed("naa", "icd").witness(), 0);
        Check.due("the first of two", posed("iab iab", "iab").witness(), 0);
        Check.due("behind one that does not do", posed("i11 iab", "iab").witness(), 1);
        Check.due("the sixth", posed("sab i11 dac i1b eCaCa i1Iab", "iab").witness(), 5);
        Check.due("the denial may come behind", posed("iab icd dab", "icd").witness(), 0);
        Gimlet left = posed(Scripts.some(0, 7, 15) + " " + Scripts.none(15), Scripts.some(0));
        Check.noSuchElement("one region is neither", left, left::witness);
        Sentences.about(32, "Returns the number of the assumption");
        for (char kind : "xni".toCharArray()) {
            Check.due("a goal " + kind, posed("sab " + kind + "cd", kind + "cd").witness(), 1);
            Check.due("each goal, if no region is in it", posed("iab dab", kind + "00").witness(), 0);
        }
        Twins.changesNothing("witness()", 1, () -> posed("sab iab", "iab"), Gimlet::witness);
    }

    private static void witnessRefused() {
        Sentences.about(32, "Throws `IllegalStateException` if there is no goal");
        refusesWithoutGoal(Gimlet::witness);
        Sentences.about(32, "Throws `UnsupportedOperationException` if the goal does not demand an element");
        for (char kind : "sed".toCharArray()) {
            Twins.unsupported("no assumption, " + kind, () -> posed("", kind + "ab"), Gimlet::witness);
            Twins.unsupported("a demand, " + kind, () -> posed("iab", kind + "ab"), Gimlet::witness);
            Twins.unsupported("no model, " + kind, () -> posed("n00", kind + "ab"), Gimlet::witness);
            Twins.unsupported("a goal that follows, " + kind, () -> posed("", kind + "00"), Gimlet::witness);
        }
        Sentences.about(32, "Throws `NoSuchElementException` if there is none");
        for (char kind : "xni".toCharArray()) {
            Twins.noSuchElement("no assumption, " + kind, () -> posed("", kind + "ab"), Gimlet::witness);
            Twins.noSuchElement("no demand, " + kind, () -> posed("sab e10", kind + "ab"), Gimlet::witness);
            Twins.noSuchElement("a demand elsewhere, " + kind, () -> posed("i11", kind + "ab"), Gimlet::witness);
        }
        Twins.noSuchElement("a dropped one", () -> dropped("sab iab", "iab"), Gimlet::witness);
    }
}
