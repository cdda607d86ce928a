/** Promises 24 to 32: assumptions, the goal, and why it follows. */
public final class StatementsTest {

    private static final char[] KINDS = {'s', 'e', 'd', 'x', 'n', 'i'};

    public static void main(String[] args) {
        assuming();
        dropping();
        goals();
        wrongStatements();
        meanings();
        consistency();
        denials();
        following();
        reasons();
        witnesses();
        noGoal();
        Check.finish("StatementsTest");
    }

    /** Terms 0 to 5: a, b, c, d, the empty set and the universe. */
    private static Gimlet leaves() {
        Gimlet gimlet = new Gimlet();
        for (int letter = 0; letter < 4; letter++) {
            gimlet.letter(letter);
        }
        gimlet.empty();
        gimlet.universe();
        return gimlet;
    }

    private static final int A = 0;
    private static final int B = 1;
    private static final int C = 2;
    private static final int D = 3;
    private static final int NOTHING = 4;
    private static final int ALL = 5;

    private static void assuming() {
        Gimlet gimlet = leaves();
        for (int number = 0; number < 6; number++) {
            Check.due("assumptions()", gimlet.assumptions(), number);
            Check.due("assume " + number, gimlet.assume(KINDS[number], NOTHING, B), number);
        }
        Check.due("assumptions()", gimlet.assumptions(), 6);
        for (char kind : KINDS) {
            Check.illegalState("a seventh assumption, " + kind, gimlet, () -> gimlet.assume(kind, A, B));
        }
        Check.illegalArgument("a seventh of no kind", gimlet, () -> gimlet.assume('z', A, 99));
        Check.outOfBounds("a seventh of no term", gimlet, () -> gimlet.assume('s', A, 99));
        Check.due("a sixth again", gimlet.drop() + gimlet.assume('s', A, B), 10);
    }

    private static void dropping() {
        Gimlet gimlet = leaves();
        Check.illegalState("drop() without any", gimlet, gimlet::drop);
        gimlet.assume('s', A, B);
        gimlet.assume('i', A, C);
        gimlet.assume('e', A, NOTHING);
        Check.holds("three that can't hold together", !gimlet.isConsistent());
        Check.due("drop() of three", gimlet.drop(), 2);
        Check.holds("the last one is away", gimlet.isConsistent());
        gimlet.setGoal('i', B, C);
        Check.holds("the first two are there", gimlet.follows());
        Check.due("drop() of two", gimlet.drop(), 1);
        Check.holds("the second is away", !gimlet.follows());
        Check.due("a new second", gimlet.assume('x', ALL, B), 1);
        Check.due("drop()", gimlet.drop(), 1);
        Check.due("drop() of one", gimlet.drop(), 0);
        Check.illegalState("drop() of none", gimlet, gimlet::drop);
        Check.holds("the goal stays", !gimlet.follows());
    }

    private static void goals() {
        Gimlet gimlet = leaves();
        Check.due("the first goal", gimlet.setGoal('s', A, B), false);
        Check.holds("does not follow", !gimlet.follows());
        Check.due("the second goal", gimlet.setGoal('s', A, A), true);
        Check.holds("follows", gimlet.follows());
        Check.due("the same goal again", gimlet.setGoal('s', A, A), true);
        Check.due("a goal is no assumption", gimlet.assumptions(), 0);
    }

    private static void wrongStatements() {
        Gimlet gimlet = leaves();
        gimlet.assume('s', A, B);
        for (int code = 0; code < 70000; code += code < 300 ? 1 : 7001) {
            char kind = (char) code;
            if ("sedxni".indexOf(kind) < 0) {
                Check.due("assume of kind " + code, Check.outcome(() -> gimlet.assume(kind, A, 99)),
                        "throws java.lang.IllegalArgumentException");
                Check.due("goal of kind " + code, Check.outcome(() -> gimlet.setGoal(kind, 99, A)),
                        "throws java.lang.IllegalArgumentException");
            }
        }
        Check.illegalArgument("assume of kind q", gimlet, () -> gimlet.assume('q', A, B));
        Check.illegalArgument("goal of kind S", gimlet, () -> gimlet.setGoal('S', A, B));
        for (char kind : KINDS) {
            for (int term : new int[] {-1, 6, Integer.MIN_VALUE, Integer.MAX_VALUE}) {
                Check.due("assume of left " + term, Check.outcome(() -> gimlet.assume(kind, term, B)),
                        "throws java.lang.IndexOutOfBoundsException");
                Check.due("assume of right " + term, Check.outcome(() -> gimlet.assume(kind, A, term)),
                        "throws java.lang.IndexOutOfBoundsException");
                Check.due("goal of left " + term, Check.outcome(() -> gimlet.setGoal(kind, term, B)),
                        "throws java.lang.IndexOutOfBoundsException");
                Check.due("goal of right " + term, Check.outcome(() -> gimlet.setGoal(kind, A, term)),
                        "throws java.lang.IndexOutOfBoundsException");
            }
        }
        Check.due("assumptions()", gimlet.assumptions(), 1);
        Check.due("still no goal", gimlet.setGoal('s', A, B), false);
        Check.outOfBounds("a wrong second goal", gimlet, () -> gimlet.setGoal('s', A, 6));
        Check.holds("the goal is as it was", gimlet.follows());
    }

    /** One element in each region tells what each kind says. */
    private static void meanings() {
        for (char kind : KINDS) {
            long[] want = new long[3];
            for (int region = -1; region < 16; region++) {
                boolean inA = region >= 0 && (region & 1) != 0;
                boolean inB = region >= 0 && (region & 2) != 0;
                boolean subset = !inA || inB;
                boolean equal = inA == inB;
                boolean disjoint = !(inA && inB);
                boolean holds = kind == 's' ? subset : kind == 'e' ? equal : kind == 'd' ? disjoint
                        : kind == 'x' ? !subset : kind == 'n' ? !equal : !disjoint;
                want[region < 0 ? 0 : 1] += holds ? 1 : 0;
            }
            Gimlet gimlet = leaves();
            gimlet.assume(kind, A, B);
            Check.due("empty universes for " + kind, gimlet.models(0), want[0]);
            Check.due("single elements for " + kind, gimlet.models(1), want[1]);
            gimlet.setGoal(kind, A, B);
            Check.holds(kind + " follows from itself", gimlet.follows());
        }
    }

    private static void consistency() {
        Gimlet gimlet = leaves();
        Check.holds("nothing is consistent", gimlet.isConsistent());
        gimlet.assume('e', ALL, NOTHING);
        Check.holds("the empty universe", gimlet.isConsistent());
        gimlet.assume('n', A, B);
        Check.holds("an element in no region", !gimlet.isConsistent());
        gimlet.drop();
        gimlet.drop();
        gimlet.assume('x', A, A);
        Check.holds("a is not outside of a", !gimlet.isConsistent());
        gimlet.drop();
        gimlet.assume('i', A, B);
        gimlet.assume('x', A, B);
        gimlet.assume('n', C, D);
        Check.holds("three demands", gimlet.isConsistent());
        gimlet.assume('s', C, D);
        Check.holds("d outside of c is left", gimlet.isConsistent());
        gimlet.assume('s', D, C);
        Check.holds("c and d are equal", !gimlet.isConsistent());
    }

    private static void denials() {
        Gimlet gimlet = leaves();
        Check.noSuchElement("no assumption", gimlet, () -> gimlet.deniedBy(0));
        gimlet.assume('i', A, B);
        gimlet.assume('s', A, C);
        gimlet.assume('e', A, B);
        gimlet.assume('d', ALL, A);
        for (int region = 0; region < 16; region++) {
            int number = region;
            boolean a = (region & 1) != 0;
            boolean b = (region & 2) != 0;
            boolean c = (region & 4) != 0;
            int want = a && !c ? 1 : a != b ? 2 : a ? 3 : -1;
            if (want < 0) {
                Check.noSuchElement("deniedBy(" + region + ")", gimlet, () -> gimlet.deniedBy(number));
            } else {
                Check.due("deniedBy(" + region + ")", gimlet.deniedBy(region), want);
            }
        }
        for (int region : new int[] {-1, 16, 33, Integer.MIN_VALUE, Integer.MAX_VALUE}) {
            Check.illegalArgument("deniedBy(" + region + ")", gimlet, () -> gimlet.deniedBy(region));
        }
        gimlet.drop();
        Check.noSuchElement("a dropped denial", gimlet, () -> gimlet.deniedBy(7));

        Gimlet first = leaves();
        first.assume('s', A, B);
        first.assume('d', A, A);
        Check.due("denied by the assumption 0", first.deniedBy(5), 0);
        Check.due("denied by the assumption 1", first.deniedBy(3), 1);
        Check.noSuchElement("denied by neither", first, () -> first.deniedBy(2));
        first.assume('n', C, C);
        Check.noSuchElement("no model, but no denial", first, () -> first.deniedBy(2));
    }

    private static void following() {
        Gimlet gimlet = leaves();
        gimlet.assume('s', A, B);
        gimlet.assume('s', B, C);
        follows(gimlet, 's', A, C, true);
        follows(gimlet, 's', C, A, false);
        follows(gimlet, 'x', A, C, false);
        follows(gimlet, 'e', A, C, false);
        follows(gimlet, 'i', A, C, false);
        gimlet.assume('x', A, NOTHING);
        follows(gimlet, 'i', A, C, true);
        follows(gimlet, 'i', B, C, true);
        follows(gimlet, 'n', C, NOTHING, true);
        follows(gimlet, 'd', A, C, false);
        follows(gimlet, 'i', C, D, false);
        gimlet.assume('d', B, C);
        follows(gimlet, 'i', C, D, true);
        follows(gimlet, 'd', C, D, true);
        Gimlet alone = leaves();
        follows(alone, 'e', A, A, true);
        follows(alone, 'n', A, A, false);
        follows(alone, 'i', ALL, ALL, false);
        follows(alone, 'd', A, NOTHING, true);
        alone.assume('i', A, B);
        alone.assume('i', A, C);
        follows(alone, 'i', B, C, false);
        int ab = alone.union(B, C);
        follows(alone, 'i', A, ab, true);
    }

    private static void follows(Gimlet gimlet, char kind, int left, int right, boolean want) {
        gimlet.setGoal(kind, left, right);
        String what = kind + " " + left + " " + right;
        Check.due("follows: " + what, gimlet.follows(), want);
        if (want) {
            Check.noSuchElement("elements: " + what, gimlet, gimlet::elements);
            Check.noSuchElement("elementsByTrying: " + what, gimlet, gimlet::elementsByTrying);
            Check.noSuchElement("region: " + what, gimlet, () -> gimlet.region(0));
        } else {
            Check.noSuchElement("why: " + what, gimlet, gimlet::why);
        }
    }

    private static void reasons() {
        Gimlet gimlet = leaves();
        gimlet.assume('s', A, B);
        gimlet.assume('i', A, C);
        gimlet.setGoal('s', A, B);
        Check.due("why of a denial", gimlet.why(), 'r');
        gimlet.setGoal('i', B, C);
        Check.due("why of a demand", gimlet.why(), 'w');
        gimlet.setGoal('e', A, B);
        Check.noSuchElement("why of what does not follow", gimlet, gimlet::why);
        gimlet.setGoal('n', A, B);
        Check.noSuchElement("why of a demand that does not follow", gimlet, gimlet::why);
        gimlet.assume('d', B, C);
        Check.due("why of a demand without model", gimlet.why(), 'm');
        gimlet.setGoal('s', A, B);
        Check.due("why of a denial without model", gimlet.why(), 'm');
        gimlet.drop();
        Check.due("why with a model again", gimlet.why(), 'r');
    }

    private static void witnesses() {
        Gimlet gimlet = leaves();
        gimlet.assume('s', A, B);
        gimlet.setGoal('i', B, C);
        Check.noSuchElement("no demand", gimlet, gimlet::witness);
        gimlet.assume('i', B, D);
        Check.noSuchElement("another demand", gimlet, gimlet::witness);
        gimlet.assume('i', A, C);
        Check.due("the second demand", gimlet.witness(), 2);
        gimlet.assume('i', B, C);
        Check.due("the first of two", gimlet.witness(), 2);
        for (char kind : new char[] {'s', 'e', 'd'}) {
            gimlet.setGoal(kind, A, B);
            Check.unsupported("witness of " + kind, gimlet, gimlet::witness);
        }
        gimlet.setGoal('x', B, A);
        Check.noSuchElement("witness of what does not follow", gimlet, gimlet::witness);
        gimlet.assume('e', B, A);
        Check.noSuchElement("no witness either", gimlet, gimlet::witness);
        gimlet.assume('d', B, D);
        Check.due("a demand that can't be met", gimlet.witness(), 1);

        Gimlet impossible = leaves();
        impossible.assume('i', A, B);
        impossible.assume('n', C, C);
        impossible.setGoal('i', C, D);
        Check.due("a demand in no region", impossible.witness(), 1);
    }

    private static void noGoal() {
        Gimlet gimlet = leaves();
        gimlet.assume('n', A, A);
        Check.illegalState("follows()", gimlet, gimlet::follows);
        Check.illegalState("why()", gimlet, gimlet::why);
        Check.illegalState("witness()", gimlet, gimlet::witness);
        Check.illegalState("elements()", gimlet, gimlet::elements);
        Check.illegalState("elementsByTrying()", gimlet, gimlet::elementsByTrying);
        Check.illegalState("region(0)", gimlet, () -> gimlet.region(0));
        Check.illegalState("region(-1)", gimlet, () -> gimlet.region(-1));
    }
}
