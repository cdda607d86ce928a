/** Promises 17 to 20: the rules, the steps and the normal form. */
public final class RewritingTest {

    private static final String NESTED = "SSSddSddSSddSdd";

    public static void main(String[] args) {
        rules();
        firstRule();
        firstPlace();
        normal();
        tooLarge();
        noRoom();
        partsBecomeKnown();
        nothingBetween();
        wrongTerms();
        longRewriting();
        Check.finish("RewritingTest");
    }

    private static void rewrites(String text, char rule, String made) {
        Gimlet gimlet = new Gimlet();
        int term = Check.make(gimlet, text);
        int known = gimlet.terms();
        Check.due("rule of " + text, Check.outcome(() -> gimlet.rule(term)), rule);
        Check.due("rule of " + text + " makes no term", gimlet.terms(), known);
        Object step = Check.outcome(() -> gimlet.step(term));
        Check.due("step of " + text, step instanceof Integer ? Check.text(gimlet, (Integer) step) : step, made);
    }

    private static void rules() {
        rewrites("CCUab", 'n', "Uab");
        rewrites("C0", 'e', "1");
        rewrites("C1", 'v', "0");
        rewrites("CUaIbc", 'u', "ICaCIbc");
        rewrites("CIUabc", 'i', "UCUabCc");
        rewrites("DUabCc", 'd', "IUabCCc");
        rewrites("SaCb", 's', "UDaCbDCba");
        rewrites("IUab0", 'z', "0");
        rewrites("I0a", 'z', "0");
        rewrites("I1Uab", 'o', "Uab");
        rewrites("IUab1", 'o', "Uab");
        rewrites("U0Iab", 'y', "Iab");
        rewrites("UIab0", 'y', "Iab");
        rewrites("U1a", 't', "1");
        rewrites("Ua1", 't', "1");
        rewrites("IUabUab", 'p', "Uab");
        rewrites("UIabIab", 'p', "Iab");
        rewrites("IaCa", 'c', "0");
        rewrites("ICaa", 'c', "0");
        rewrites("UaCa", 'c', "1");
        rewrites("UCIabIab", 'c', "1");
    }

    /** At one place the first rule in their order counts. */
    private static void firstRule() {
        rewrites("CC0", 'n', "0");
        rewrites("CCCa", 'n', "Ca");
        rewrites("I01", 'z', "0");
        rewrites("I10", 'z', "0");
        rewrites("I00", 'z', "0");
        rewrites("I0C0", 'z', "0");
        rewrites("I11", 'o', "1");
        rewrites("I1C1", 'o', "C1");
        rewrites("U01", 'y', "1");
        rewrites("U10", 'y', "1");
        rewrites("U00", 'y', "0");
        rewrites("UC00", 'y', "C0");
        rewrites("U11", 't', "1");
        rewrites("U1C1", 't', "1");
    }

    /** The place comes before the rule: the first symbol that begins a term which a rule can rewrite. */
    private static void firstPlace() {
        rewrites("IUabCUab", 'c', "0");
        rewrites("ICaCCa", 'c', "0");
        rewrites("UDabDab", 'p', "Dab");
        rewrites("CDab", 'd', "CIaCb");
        rewrites("CSab", 's', "CUDabDba");
        rewrites("SCCab", 's', "UDCCabDbCCa");
        rewrites("UIaaCCb", 'p', "UaCCb");
        rewrites("UcIU0bCCd", 'y', "UcIbCCd");
        rewrites("IUabDcC0", 'd', "IUabIcCC0");
        rewrites("IIabUcCCd", 'n', "IIabUcd");
    }

    private static void normal() {
        for (String text : new String[] {"a", "0", "1", "Ca", "Uab", "IaCb", "UIabCa", "IUaCbUab", "UIabIba"}) {
            Gimlet gimlet = new Gimlet();
            int term = Check.make(gimlet, text);
            Check.noSuchElement("rule of " + text, gimlet, () -> gimlet.rule(term));
            Check.noSuchElement("step of " + text, gimlet, () -> gimlet.step(term));
            Check.due("steps of " + text, gimlet.steps(term), 0);
            Check.due("normal form of " + text, gimlet.normalForm(term), term);
        }
        reaches("CUab", 1, "ICaCb");
        reaches("Sab", 3, "UIaCbIbCa");
        reaches("CSab", 8, "IUCabUCba");
        reaches("CCCCa", 2, "a");
        reaches("I0CSab", 1, "0");
        reaches("DaDab", 4, "IaUCab");
        reaches(NESTED, 4, "0");
    }

    private static void reaches(String text, int steps, String form) {
        Gimlet gimlet = new Gimlet();
        int term = Check.make(gimlet, text);
        int known = gimlet.terms();
        Check.due("steps of " + text, gimlet.steps(term), steps);
        Check.due("steps of " + text + " makes no term", gimlet.terms(), known);
        Check.due("normal form of " + text, Check.text(gimlet, gimlet.normalForm(term)), form);
    }

    private static void tooLarge() {
        String nine = "CCCCCCCCa";
        String ten = "C" + nine;
        Gimlet gimlet = new Gimlet();
        int largest = Check.make(gimlet, "S" + nine + "CCCCCCCCb");
        Check.due("symbols that become 39", gimlet.size(gimlet.step(largest)), 39);
        int larger = Check.make(gimlet, "S" + ten + "CCCCCCCCb");
        Check.due("rule of a step that can't be made", gimlet.rule(larger), 's');
        Check.unsupported("a step to 41 symbols", gimlet, () -> gimlet.step(larger));
        Check.due("no step to 41 symbols", gimlet.steps(larger), 0);
        Check.unsupported("normal form behind 41 symbols", gimlet, () -> gimlet.normalForm(larger));
        int complement = Check.make(gimlet, "CU" + "C".repeat(18) + "a" + "C".repeat(17) + "b");
        Check.due("39 symbols", gimlet.size(complement), 39);
        Check.due("a step to 40 symbols", gimlet.size(gimlet.step(complement)), 40);
        int full = Check.make(gimlet, "CU" + "C".repeat(18) + "a" + "C".repeat(18) + "b");
        Check.due("40 symbols", gimlet.size(full), 40);
        Check.unsupported("a step from 40 to 41 symbols", gimlet, () -> gimlet.step(full));
    }

    /** Of a step that can't be made and a term that can't be made, the step goes first. */
    private static void noRoom() {
        Gimlet gimlet = new Gimlet();
        int larger = Check.make(gimlet, "SCCCCCCCCCaCCCCCCCCb");
        int small = Check.make(gimlet, "Sab");
        int normal = Check.make(gimlet, "Uab");
        int shrinking = Check.make(gimlet, "ICCa1");
        int twice = Check.make(gimlet, "CCDab");
        fill(gimlet);
        Check.due("terms()", gimlet.terms(), 120);
        Check.unsupported("step beyond 40", gimlet, () -> gimlet.step(larger));
        Check.unsupported("normal form beyond 40", gimlet, () -> gimlet.normalForm(larger));
        Check.illegalState("step with no room", gimlet, () -> gimlet.step(small));
        Check.illegalState("normal form with no room", gimlet, () -> gimlet.normalForm(small));
        Check.noSuchElement("step of a normal form", gimlet, () -> gimlet.step(normal));
        Check.noSuchElement("rule of a normal form", gimlet, () -> gimlet.rule(normal));
        Check.outOfBounds("step of no term", gimlet, () -> gimlet.step(120));
        Check.due("steps with no room", gimlet.steps(small), 3);
        Check.due("rule with no room", gimlet.rule(small), 's');
        Check.due("a known normal form", gimlet.normalForm(normal), normal);
        Check.due("a known step", Check.text(gimlet, gimlet.step(shrinking)), "CCa");
        Check.due("a known normal form behind two steps", Check.text(gimlet, gimlet.normalForm(shrinking)), "a");
        Check.due("a known step inside", Check.text(gimlet, gimlet.step(twice)), "Dab");
    }

    /** Makes terms until 120 are known. */
    private static void fill(Gimlet gimlet) {
        int most = gimlet.terms();
        for (int left = 0; left < most; left++) {
            for (int right = 0; right < most && gimlet.terms() < 120; right++) {
                if (gimlet.size(left) + gimlet.size(right) < 10) {
                    gimlet.symmetric(left, right);
                }
            }
        }
    }

    /** With room for some of the terms in a new term, but not for all, none becomes known. */
    private static void partsBecomeKnown() {
        for (int room = 0; room <= 3; room++) {
            Gimlet gimlet = new Gimlet();
            int term = Check.make(gimlet, "Sab");
            while (gimlet.terms() < 120 - room) {
                Gimlet same = gimlet;
                for (int left = 0; left < 120 && same.terms() < 120 - room; left++) {
                    for (int right = 0; right < 11 && same.terms() < 120 - room; right++) {
                        if (left < same.terms() && right < same.terms()) {
                            same.intersection(left, right);
                        }
                    }
                }
            }
            if (room < 3) {
                Check.illegalState("step with room for " + room, gimlet, () -> gimlet.step(term));
                Check.illegalState("normal form with room for " + room, gimlet, () -> gimlet.normalForm(term));
                Check.due("terms with room for " + room, gimlet.terms(), 120 - room);
            } else {
                Check.due("step with room for 3", gimlet.step(term), 119);
                Check.due("the left one", Check.text(gimlet, 117), "Dab");
                Check.due("the right one", Check.text(gimlet, 118), "Dba");
                Check.due("both", Check.text(gimlet, 119), "UDabDba");
            }
        }
    }

    private static void nothingBetween() {
        Gimlet gimlet = new Gimlet();
        int term = Check.make(gimlet, "CSab");
        int known = gimlet.terms();
        int form = gimlet.normalForm(term);
        String[] made = {"Ca", "UCab", "Cb", "UCba", "IUCabUCba"};
        Check.due("number of the normal form", form, known + made.length - 1);
        Check.due("terms behind the normal form", gimlet.terms(), known + made.length);
        for (int index = 0; index < made.length; index++) {
            Check.due("made term " + index, Check.text(gimlet, known + index), made[index]);
        }
        Check.due("the normal form again", gimlet.normalForm(term), form);
    }

    private static void wrongTerms() {
        Gimlet gimlet = new Gimlet();
        Check.make(gimlet, "CCa");
        for (int term : new int[] {-1, 3, 120, Integer.MIN_VALUE, Integer.MAX_VALUE}) {
            Check.outOfBounds("rule(" + term + ")", gimlet, () -> gimlet.rule(term));
            Check.outOfBounds("step(" + term + ")", gimlet, () -> gimlet.step(term));
            Check.outOfBounds("steps(" + term + ")", gimlet, () -> gimlet.steps(term));
            Check.outOfBounds("normalForm(" + term + ")", gimlet, () -> gimlet.normalForm(term));
        }
    }

    /** Steps go on until the first that can't be made, and not beyond it. */
    private static void longRewriting() {
        for (String text : new String[] {"DDDDDDDDabcdabcda", "SSabc", "SSabScd", "CSSabc", "DSabScd", "SaSbSab"}) {
            String now = text;
            int made = 0;
            String next = Reference.next(now);
            while (next != null && next.length() <= 41) {
                now = next.substring(1);
                made++;
                next = Reference.next(now);
            }
            Gimlet gimlet = new Gimlet();
            int term = Check.make(gimlet, text);
            Check.due("steps of " + text, gimlet.steps(term), made);
            if (next == null) {
                Check.due("normal form of " + text, Check.text(gimlet, gimlet.normalForm(term)), now);
            } else {
                Check.unsupported("normal form of " + text, gimlet, () -> gimlet.normalForm(term));
            }
        }
    }
}
