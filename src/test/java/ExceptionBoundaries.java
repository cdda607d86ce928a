/** The section on exceptions: nothing changes behind one, and of several the first listed one is thrown. */
final class ExceptionBoundaries {

    /** A step of this term would have 41 symbols. */
    private static final String TOO_LARGE = "D" + Scripts.normal(19) + Scripts.normal(20);

    /** Calls that are refused by an object with eight terms, three or six assumptions, and a goal. */
    private static final Twins.Call[] REFUSED = {
        twin -> twin.letter(-1), twin -> twin.letter(4), twin -> twin.complement(-1),
        twin -> twin.complement(120), twin -> twin.union(120, 0), twin -> twin.union(0, 120),
        twin -> twin.intersection(120, 0), twin -> twin.intersection(0, 120), twin -> twin.difference(120, 0),
        twin -> twin.difference(0, 120), twin -> twin.symmetric(120, 0), twin -> twin.symmetric(0, 120),
        twin -> twin.size(120), twin -> twin.symbol(120, 0), twin -> twin.symbol(0, 40), twin -> twin.regions(120),
        twin -> twin.covers(120, 0), twin -> twin.covers(0, 16), twin -> twin.coversByTerm(120, 0),
        twin -> twin.coversByTerm(0, 16), twin -> twin.isEqual(120, 0), twin -> twin.isEqual(0, 120),
        twin -> twin.rule(120), twin -> twin.rule(0), twin -> twin.step(120), twin -> twin.step(0),
        twin -> twin.steps(120), twin -> twin.normalForm(120), twin -> twin.primes(120),
        twin -> twin.primesByTrying(120), twin -> twin.prime(120, 0, 0), twin -> twin.prime(0, 99, 0),
        twin -> twin.prime(0, 0, 4), twin -> twin.assume('q', 0, 0), twin -> twin.assume('s', 120, 0),
        twin -> twin.assume('n', 0, 120), twin -> twin.setGoal('q', 0, 0), twin -> twin.setGoal('s', 120, 0),
        twin -> twin.setGoal('n', 0, 120), twin -> twin.deniedBy(16), twin -> twin.deniedBy(-1),
        twin -> twin.region(16), twin -> twin.models(-1), twin -> twin.models(7), twin -> twin.modelsByTrying(-1),
        twin -> twin.modelsByTrying(4), twin -> twin.density(120),
    };

    private ExceptionBoundaries() {
    }

    static void run() {
        nothingChanges();
        firstListed();
    }

    private static void nothingChanges() {
        Sentences.about(0, "A method that throws an exception changes nothing");
        for (Twins.Script script : new Twins.Script[] {Scripts.BUSY, Scripts.SIX, Scripts.FULL}) {
            Twins.changesNothing("all refused calls", REFUSED.length, script, ExceptionBoundaries::refused);
            for (int number = 0; number < REFUSED.length; number++) {
                Twins.Call call = REFUSED[number];
                Twins.changesNothing("the refused call " + number, 1, script, twin -> refused(twin, call));
            }
        }
        Twins.changesNothing("a seventh assumption", 1, Scripts.SIX, twin -> refused(twin, it -> it.assume('s', 0, 0)));
        Twins.changesNothing("a 121st term", 1, Scripts.FULL, twin -> refused(twin, it -> it.symmetric(0, 0)));
        Twins.changesNothing("41 symbols", 1, Scripts.CHAIN, twin -> refused(twin, it -> it.complement(39)));
        Twins.changesNothing("a step to 41 symbols", 1, Scripts.withRoom(TOO_LARGE, 60),
                twin -> refused(twin, it -> it.step(Check.make(it, TOO_LARGE))));
        Twins.changesNothing("two new terms of three", 1, Scripts.withRoom("Sab", 2),
                twin -> refused(twin, it -> it.step(2)));
        Twins.changesNothing("four new terms of five", 1, Scripts.withRoom("Sab", 4),
                twin -> refused(twin, it -> it.normalForm(2)));
        Twins.changesNothing("drop() without any", 1, Scripts.SILENT, twin -> refused(twin, Gimlet::drop));
    }

    private static int refused(Gimlet twin, Twins.Call... calls) {
        int refused = 0;
        for (Twins.Call call : calls.length == 0 ? REFUSED : calls) {
            refused += String.valueOf(Check.outcome(() -> call.on(twin))).startsWith("throws ") ? 1 : 0;
        }
        return refused;
    }

    private static void firstListed() {
        Sentences.about(0, "If several exceptions apply, the one that is listed first is thrown");
        Twins.illegalArgument("letter: no letter, no room", Scripts.ONLY_A, twin -> twin.letter(4));
        Twins.outOfBounds("complement: no term, no room", Scripts.ONLY_A, twin -> twin.complement(120));
        Twins.outOfBounds("union: no term, no room", Scripts.ONLY_A, twin -> twin.union(120, 0));
        Twins.outOfBounds("intersection: no term, no room", Scripts.ONLY_A, twin -> twin.intersection(119, -1));
        Twins.outOfBounds("difference: no term, too large", Scripts.CHAIN, twin -> twin.difference(39, 40));
        Twins.outOfBounds("symmetric: no term, too large", Scripts.CHAIN, twin -> twin.symmetric(-1, 39));
        Twins.outOfBounds("symbol: no term, no symbol", Scripts.BUSY, twin -> twin.symbol(8, 40));
        Twins.outOfBounds("covers: no term, no region", Scripts.BUSY, twin -> twin.covers(8, 16));
        Twins.outOfBounds("coversByTerm: no term, no region", Scripts.BUSY, twin -> twin.coversByTerm(-1, -1));
        Twins.unsupported("step: too large, no room", Scripts.withRoom(TOO_LARGE, 0),
                twin -> twin.step(Check.make(twin, TOO_LARGE)));
        Twins.unsupported("normalForm: too large, no room", Scripts.withRoom(TOO_LARGE, 0),
                twin -> twin.normalForm(Check.make(twin, TOO_LARGE)));
        primes();
        statements();
    }

    private static void primes() {
        Twins.outOfBounds("prime: no term, no index, no letter", Scripts.BUSY, twin -> twin.prime(8, 99, 4));
        Twins.outOfBounds("prime: no term, no index", Scripts.BUSY, twin -> twin.prime(8, 99, 0));
        Twins.outOfBounds("prime: no term, no letter", Scripts.BUSY, twin -> twin.prime(8, 0, 4));
        Twins.noSuchElement("prime: no index, no letter", Scripts.BUSY, twin -> twin.prime(0, 1, -1));
        Twins.noSuchElement("prime: no index of the empty set, no letter", Scripts.BUSY, twin -> twin.prime(4, 0, 4));
    }

    private static void statements() {
        Twins.illegalArgument("assume: no kind, no term, six", Scripts.SIX, twin -> twin.assume('q', 8, 8));
        Twins.illegalArgument("assume: no kind, no term", Scripts.BUSY, twin -> twin.assume('q', 0, 8));
        Twins.illegalArgument("assume: no kind, six", Scripts.SIX, twin -> twin.assume('q', 0, 0));
        Twins.outOfBounds("assume: no left term, six", Scripts.SIX, twin -> twin.assume('s', 8, 0));
        Twins.outOfBounds("assume: no right term, six", Scripts.SIX, twin -> twin.assume('s', 0, 8));
        Twins.illegalArgument("setGoal: no kind, no term", Scripts.BUSY, twin -> twin.setGoal('q', 8, 8));
        Twins.illegalArgument("deniedBy: no region, none", Scripts.NEW, twin -> twin.deniedBy(16));
        Twins.illegalState("why: no goal, none follows", Scripts.SILENT, Gimlet::why);
        Twins.illegalState("witness: no goal, none", Scripts.SILENT, Gimlet::witness);
        Twins.unsupported("witness: no demand, none", () -> Check.posed("", "s00"), Gimlet::witness);
        Twins.illegalState("elements: no goal, no model", () -> Check.posed("n00", ""), Gimlet::elements);
        Twins.illegalState("elementsByTrying: no goal, no model", () -> Check.posed("n00", ""),
                Gimlet::elementsByTrying);
        Twins.illegalState("region: no goal, no element", Scripts.SILENT, twin -> twin.region(-1));
        Twins.illegalState("region: no goal, no model", () -> Check.posed("n00", ""), twin -> twin.region(0));
    }
}
