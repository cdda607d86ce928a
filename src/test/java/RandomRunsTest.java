/**
 * Long runs of calls on Gimlet and on the reference side by side: every answer and every exception,
 * by its exact class, has to be the same. The numbers come from a generator of its own, so that each
 * run of this test makes the same calls.
 */
public final class RandomRunsTest {

    private static final int RUNS = 400;
    private static final int CALLS = 512;

    private long seed;

    private RandomRunsTest(long seed) {
        this.seed = seed;
    }

    public static void main(String[] args) {
        for (int run = 0; run < RUNS; run++) {
            new RandomRunsTest(run * 7919L + 1).run(run);
        }
        Check.finish("RandomRunsTest");
    }

    private int below(int bound) {
        seed = seed * 6364136223846793005L + 1442695040888963407L;
        return (int) ((seed >>> 33) % bound);
    }

    private Gimlet gimlet;
    private Reference reference;

    private void run(int run) {
        gimlet = new Gimlet();
        reference = new Reference();
        // Some runs mostly build, some mostly state: a run that only builds soon knows 120 terms.
        int building = 20 + 20 * (run % 4);
        for (int call = 0; call < CALLS; call++) {
            String where = "run " + run + ", call " + call + ": ";
            if (call < 12 || below(100) < building) {
                build(where);
            } else if (below(2) == 0) {
                look(where);
            } else {
                state(where);
            }
        }
    }

    private void same(String call, Check.Call got, Check.Call want) {
        Check.due(call, Check.outcome(got), Check.outcome(want));
    }

    /** Mostly a known term, sometimes none. */
    private int term() {
        int known = gimlet.terms();
        int pick = below(60);
        if (pick == 0) {
            return -1 - below(2);
        }
        if (pick == 1 || known == 0) {
            return known + below(2);
        }
        if (pick < 20) {
            return Math.max(0, known - 1 - below(8)) % known;
        }
        return below(known);
    }

    private int number(int least, int most) {
        int pick = below(40);
        return pick == 0 ? least - 1 : pick == 1 ? most + 1 : least + below(most - least + 1);
    }

    private char kind() {
        return below(30) == 0 ? (char) below(300) : "sedxni".charAt(below(6));
    }

    private void build(String where) {
        int left = term();
        int right = term();
        int letter = number(0, 3);
        switch (below(12)) {
            case 0:
            case 1:
                same(where + "letter(" + letter + ")", () -> gimlet.letter(letter), () -> reference.letter(letter));
                break;
            case 2:
                same(where + "empty()", gimlet::empty, reference::empty);
                break;
            case 3:
                same(where + "universe()", gimlet::universe, reference::universe);
                break;
            case 4:
            case 5:
            case 6:
                same(where + "complement(" + left + ")", () -> gimlet.complement(left),
                        () -> reference.complement(left));
                break;
            case 7:
            case 8:
                same(where + "union(" + left + ", " + right + ")", () -> gimlet.union(left, right),
                        () -> reference.pair('U', left, right));
                break;
            case 9:
                same(where + "intersection(" + left + ", " + right + ")", () -> gimlet.intersection(left, right),
                        () -> reference.pair('I', left, right));
                break;
            case 10:
                same(where + "difference(" + left + ", " + right + ")", () -> gimlet.difference(left, right),
                        () -> reference.pair('D', left, right));
                break;
            default:
                same(where + "symmetric(" + left + ", " + right + ")", () -> gimlet.symmetric(left, right),
                        () -> reference.pair('S', left, right));
                break;
        }
    }

    private void look(String where) {
        int term = term();
        int other = term();
        int region = number(0, 15);
        int index = number(0, 5);
        int letter = number(0, 3);
        String call = where + "look at " + term + ", " + other + ", " + region + ", " + index + ", " + letter;
        switch (below(15)) {
            case 0:
                same(call + ": terms", gimlet::terms, reference::terms);
                break;
            case 1:
                same(call + ": size", () -> gimlet.size(term), () -> reference.size(term));
                break;
            case 2:
                int at = number(0, 39);
                same(call + ": symbol " + at, () -> gimlet.symbol(term, at), () -> reference.symbol(term, at));
                break;
            case 3:
                same(call + ": regions", () -> gimlet.regions(term), () -> reference.regions(term));
                same(call + ": density", () -> gimlet.density(term), () -> reference.density(term));
                break;
            case 4:
                same(call + ": covers", () -> gimlet.covers(term, region), () -> reference.covers(term, region));
                same(call + ": coversByTerm", () -> gimlet.coversByTerm(term, region),
                        () -> reference.covers(term, region));
                break;
            case 5:
                same(call + ": isEqual", () -> gimlet.isEqual(term, other), () -> reference.isEqual(term, other));
                break;
            case 6:
            case 7:
                same(call + ": rule", () -> gimlet.rule(term), () -> reference.rule(term));
                break;
            case 8:
            case 9:
                same(call + ": step", () -> gimlet.step(term), () -> reference.step(term));
                break;
            case 10:
                same(call + ": steps", () -> gimlet.steps(term), () -> reference.steps(term));
                break;
            case 11:
            case 12:
                same(call + ": normalForm", () -> gimlet.normalForm(term), () -> reference.normalForm(term));
                break;
            case 13:
                same(call + ": primes", () -> gimlet.primes(term), () -> reference.primes(term));
                same(call + ": primesByTrying", () -> gimlet.primesByTrying(term), () -> reference.primes(term));
                break;
            default:
                same(call + ": prime", () -> gimlet.prime(term, index, letter),
                        () -> reference.prime(term, index, letter));
                break;
        }
    }

    private void state(String where) {
        char kind = kind();
        int left = term();
        int right = term();
        int region = number(0, 15);
        int element = number(0, 3);
        int elements = number(0, 6);
        int tried = number(0, 3);
        String call = where + "state " + (int) kind + ", " + left + ", " + right + ", " + region + ", " + element
                + ", " + elements;
        switch (below(18)) {
            case 0:
            case 1:
            case 2:
                same(call + ": assume", () -> gimlet.assume(kind, left, right),
                        () -> reference.assume(kind, left, right));
                break;
            case 3:
            case 4:
                same(call + ": drop", gimlet::drop, reference::drop);
                break;
            case 5:
                same(call + ": assumptions", gimlet::assumptions, reference::assumptions);
                break;
            case 6:
            case 7:
            case 8:
                same(call + ": setGoal", () -> gimlet.setGoal(kind, left, right),
                        () -> reference.setGoal(kind, left, right));
                same(call + ": follows", gimlet::follows, reference::follows);
                break;
            case 9:
                same(call + ": isConsistent", gimlet::isConsistent, reference::isConsistent);
                break;
            case 10:
                same(call + ": deniedBy", () -> gimlet.deniedBy(region), () -> reference.deniedBy(region));
                break;
            case 11:
                same(call + ": why", gimlet::why, reference::why);
                break;
            case 12:
                same(call + ": witness", gimlet::witness, reference::witness);
                break;
            case 13:
                same(call + ": elements", gimlet::elements, reference::elements);
                break;
            case 14:
                same(call + ": elementsByTrying", gimlet::elementsByTrying, reference::elements);
                break;
            case 15:
                same(call + ": region", () -> gimlet.region(element), () -> reference.region(element));
                break;
            case 16:
                same(call + ": models", () -> gimlet.models(elements), () -> reference.models(elements));
                break;
            default:
                same(call + ": modelsByTrying", () -> gimlet.modelsByTrying(tried),
                        () -> reference.modelsByTrying(tried));
                break;
        }
    }
}
