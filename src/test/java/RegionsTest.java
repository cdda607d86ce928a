/** Promises 13 to 16 and 38: the regions that terms cover. */
public final class RegionsTest {

    private static final String[] TERMS = {
        "a", "b", "c", "d", "0", "1", "Ca", "C0", "C1", "Uab", "Iab", "Dab", "Sab", "Dba", "UcCd", "IdCd", "UdCd",
        "SCUabIcD1d", "DSabScd", "CSSSabcd", "IUabIcCd", "CCCCCCCCCCCCCCCCCCCCCCCCCCCCCCCCCCCCCCCa",
    };

    public static void main(String[] args) {
        covered();
        letters();
        limits();
        equals();
        densities();
        Check.finish("RegionsTest");
    }

    private static void covered() {
        for (String symbols : TERMS) {
            Gimlet gimlet = new Gimlet();
            int term = Check.make(gimlet, symbols);
            int count = 0;
            for (int region = 0; region < 16; region++) {
                boolean in = Reference.covers(symbols, region);
                count += in ? 1 : 0;
                Check.due(symbols + " covers " + region, gimlet.covers(term, region), in);
                Check.due(symbols + " covers by term " + region, gimlet.coversByTerm(term, region), in);
            }
            Check.due("regions of " + symbols, gimlet.regions(term), count);
            Check.due("density of " + symbols, gimlet.density(term), (float) count / 16f);
        }
    }

    /** Written out, so that the reference can't be wrong in the same way. */
    private static void letters() {
        int[] bits = {0xAAAA, 0xCCCC, 0xF0F0, 0xFF00};
        Gimlet gimlet = new Gimlet();
        for (int letter = 0; letter < 4; letter++) {
            int term = gimlet.letter(letter);
            for (int region = 0; region < 16; region++) {
                boolean in = (bits[letter] >> region & 1) == 1;
                Check.due("letter " + letter + " in " + region, gimlet.covers(term, region), in);
                Check.due("letter " + letter + " by term in " + region, gimlet.coversByTerm(term, region), in);
            }
            Check.due("regions of letter " + letter, gimlet.regions(term), 8);
        }
        Check.due("regions of 0", gimlet.regions(gimlet.empty()), 0);
        Check.due("regions of 1", gimlet.regions(gimlet.universe()), 16);
    }

    private static void limits() {
        Gimlet gimlet = new Gimlet();
        gimlet.letter(0);
        for (int region : new int[] {-1, 16, 32, Integer.MIN_VALUE, Integer.MAX_VALUE}) {
            Check.illegalArgument("covers(0, " + region + ")", gimlet, () -> gimlet.covers(0, region));
            Check.illegalArgument("coversByTerm(0, " + region + ")", gimlet, () -> gimlet.coversByTerm(0, region));
            Check.outOfBounds("covers(1, " + region + ")", gimlet, () -> gimlet.covers(1, region));
            Check.outOfBounds("coversByTerm(-1, " + region + ")", gimlet, () -> gimlet.coversByTerm(-1, region));
        }
        for (int term : new int[] {-1, 1, 120, Integer.MIN_VALUE, Integer.MAX_VALUE}) {
            Check.outOfBounds("regions(" + term + ")", gimlet, () -> gimlet.regions(term));
            Check.outOfBounds("covers(" + term + ", 0)", gimlet, () -> gimlet.covers(term, 0));
            Check.outOfBounds("coversByTerm(" + term + ", 0)", gimlet, () -> gimlet.coversByTerm(term, 0));
            Check.outOfBounds("isEqual(0, " + term + ")", gimlet, () -> gimlet.isEqual(0, term));
            Check.outOfBounds("isEqual(" + term + ", 0)", gimlet, () -> gimlet.isEqual(term, 0));
            Check.outOfBounds("density(" + term + ")", gimlet, () -> gimlet.density(term));
        }
    }

    private static void equals() {
        equal("Uab", "Uba", true);
        equal("Sab", "UDabDba", true);
        equal("a", "a", true);
        equal("0", "Daa", true);
        equal("1", "UaCa", true);
        equal("Dab", "Dba", false);
        equal("a", "b", false);
        equal("0", "1", false);
        equal("a", "Uab", false);
    }

    private static void equal(String left, String right, boolean want) {
        Gimlet gimlet = new Gimlet();
        int first = Check.make(gimlet, left);
        int second = Check.make(gimlet, right);
        Check.due("isEqual " + left + " " + right, gimlet.isEqual(first, second), want);
        Check.due("isEqual " + right + " " + left, gimlet.isEqual(second, first), want);
    }

    private static void densities() {
        Gimlet gimlet = new Gimlet();
        Check.due("density of 0", gimlet.density(Check.make(gimlet, "0")), 0f);
        Check.due("density of 1", gimlet.density(Check.make(gimlet, "1")), 1f);
        Check.due("density of b", gimlet.density(Check.make(gimlet, "b")), 0.5f);
        Check.due("density of IIIabcd", gimlet.density(Check.make(gimlet, "IIIabcd")), 0.0625f);
        Check.due("density of UUUabcd", gimlet.density(Check.make(gimlet, "UUUabcd")), 0.9375f);
    }
}
