/** Promises 33 to 37: the least counterexample and the number of models. */
public final class ModelsTest {

    public static void main(String[] args) {
        least("", "n00");
        least("", "eab", 1);
        least("", "s10", 0);
        least("", "d11", 0);
        least("", "d1d", 8);
        least("", "d1CUUUabcd", 0);
        least("", "d1IIIabcd", 15);
        least("i1CUUUabcd", "n00", 0);
        least("i1CUUUabcd i1IIIabcd", "n00", 0, 15);
        least("sab sbc", "sca", 4);
        least("sab sbc iab", "xca", 7);
        least("ndCd xd0 xCd0", "n00", 0, 8);
        least("xd0 xCd0", "iab", 0, 8);
        least("i1a i1b i1c i1d", "s1IIIabcd", 0, 15);
        least("i1a i1b i1c i1d d1IIIabcd", "n00", 1, 14);
        least("i1a i1b i1c i1d d1IIIabcd", "iad", 1, 14);
        least("i1a i1b d1Iab", "s1Uab", 0, 1, 2);
        least("i1a i1b d1Iab", "iac", 1, 2);
        firstOfSeveral();
        oneGoalAfterAnother();
        fewerDemands();
        sevenElements();
        elementLimits();
        counting();
        countingLimits();
        Check.finish("ModelsTest");
    }

    private static void least(String assumptions, String goal, int... regions) {
        Gimlet gimlet = Check.posed(assumptions, goal);
        String what = assumptions + " / " + goal;
        Check.holds("does not follow: " + what, !gimlet.follows());
        Check.due("elements: " + what, gimlet.elements(), regions.length);
        Check.due("elementsByTrying: " + what, gimlet.elementsByTrying(), regions.length);
        for (int element = 0; element < regions.length; element++) {
            Check.due("region " + element + ": " + what, gimlet.region(element), regions[element]);
        }
        for (int element : new int[] {-1, regions.length, Integer.MIN_VALUE, Integer.MAX_VALUE}) {
            Check.noSuchElement("region(" + element + "): " + what, gimlet, () -> gimlet.region(element));
        }
    }

    /** The set that comes first is not always the one that a greedy choice of the most demands finds. */
    private static void firstOfSeveral() {
        least("i1a i1Ca", "n00", 0, 1);
        least("iab icd", "iIabIcd", 3, 12);
        least("iab icd", "n00", 15);
        least("iaCb ibCa", "n00", 1, 2);
        least("iaCb ibCa icd", "n00", 1, 14);
        least("iaCb ibCa icd d1IbIcd", "n00", 2, 13);
    }

    /** Nothing of an earlier search is left behind in the next one. */
    private static void oneGoalAfterAnother() {
        Gimlet gimlet = Check.posed("", "d1CUUUabcd");
        int all = Check.make(gimlet, "1");
        int first = Check.make(gimlet, "CUUUabcd");
        int last = Check.make(gimlet, "IIIabcd");
        Check.due("the first region", gimlet.region(0), 0);
        gimlet.setGoal('d', all, last);
        Check.due("the last region", gimlet.region(0), 15);
        Check.due("one element by trying", gimlet.elementsByTrying(), 1);
        gimlet.assume('d', all, first);
        gimlet.assume('d', all, last);
        gimlet.setGoal('d', all, first);
        Check.noSuchElement("no region is left", gimlet, gimlet::elements);
        Check.noSuchElement("no region is left by trying", gimlet, gimlet::elementsByTrying);
        gimlet.drop();
        gimlet.drop();
        Check.due("the first region again", gimlet.region(0), 0);
        Check.due("elements() again", gimlet.elements(), 1);
    }

    /** What an earlier search had to meet is not to be met in the next one. */
    private static void fewerDemands() {
        Gimlet gimlet = Check.posed("i1a i1Ca", "d1b");
        int all = Check.make(gimlet, "1");
        int b = Check.make(gimlet, "b");
        found("a denial as the goal", gimlet, 0, 3);
        gimlet.setGoal('i', all, b);
        found("a demand as the goal", gimlet, 0, 1);
        gimlet.drop();
        found("one demand less", gimlet, 1);
        gimlet.drop();
        found("no demand", gimlet);
        gimlet.setGoal('d', all, b);
        found("the denial again", gimlet, 2);
    }

    private static void found(String what, Gimlet gimlet, int... regions) {
        Check.due(what + ": elementsByTrying()", Check.outcome(gimlet::elementsByTrying), regions.length);
        Check.due(what + ": elements()", Check.outcome(gimlet::elements), regions.length);
        for (int element = 0; element < regions.length; element++) {
            int one = element;
            Check.due(what + ": region " + one, Check.outcome(() -> gimlet.region(one)), regions[one]);
        }
        Check.noSuchElement(what + ": no more regions", gimlet, () -> gimlet.region(regions.length));
    }

    /** Six assumptions demand an element each in a part of their own, and the goal's denial one more. */
    private static void sevenElements() {
        Gimlet gimlet = new Gimlet();
        int[] regions = {1, 2, 4, 7, 8, 11};
        for (int region : regions) {
            gimlet.assume('i', Check.make(gimlet, "1"), single(gimlet, region));
        }
        gimlet.setGoal('d', Check.make(gimlet, "1"), single(gimlet, 14));
        Check.due("seven elements", gimlet.elements(), 7);
        Check.due("seven elements by trying", gimlet.elementsByTrying(), 7);
        int[] all = {1, 2, 4, 7, 8, 11, 14};
        for (int element = 0; element < 7; element++) {
            Check.due("region " + element + " of seven", gimlet.region(element), all[element]);
        }
        Check.noSuchElement("an eighth element", gimlet, () -> gimlet.region(7));
        Check.due("models with 5 elements", gimlet.models(5), 0L);
        Check.due("models with 6 elements", gimlet.models(6), 720L);
    }

    private static int single(Gimlet gimlet, int region) {
        StringBuilder text = new StringBuilder("III");
        for (int letter = 0; letter < 4; letter++) {
            text.append((region >> letter & 1) == 1 ? "" : "C").append((char) ('a' + letter));
        }
        return Check.make(gimlet, text.toString());
    }

    private static void elementLimits() {
        Gimlet gimlet = Check.posed("sab", "sab");
        for (int element : new int[] {0, -1, 1}) {
            Check.noSuchElement("region(" + element + ") if the goal follows", gimlet, () -> gimlet.region(element));
        }
        Check.noSuchElement("elements() if the goal follows", gimlet, gimlet::elements);
        Check.noSuchElement("elementsByTrying() if the goal follows", gimlet, gimlet::elementsByTrying);
        Gimlet none = Check.posed("sab xab", "eab");
        Check.noSuchElement("elements() without model", none, none::elements);
        Check.noSuchElement("elementsByTrying() without model", none, none::elementsByTrying);
        Check.noSuchElement("region(0) without model", none, () -> none.region(0));
    }

    private static void counts(String assumptions, long... ways) {
        Gimlet gimlet = Check.posed(assumptions, "");
        for (int elements = 0; elements < ways.length; elements++) {
            Check.due("models(" + elements + "): " + assumptions, gimlet.models(elements), ways[elements]);
            if (elements <= 3) {
                Check.due("modelsByTrying(" + elements + "): " + assumptions,
                        gimlet.modelsByTrying(elements), ways[elements]);
            }
        }
    }

    private static void counting() {
        counts("", 1, 16, 256, 4096, 65536, 1048576, 16777216);
        counts("sab", 1, 12, 144, 1728, 20736, 248832, 2985984);
        counts("e10", 1, 0, 0, 0, 0, 0, 0);
        counts("n10", 0, 16, 256, 4096, 65536, 1048576, 16777216);
        counts("xa0", 0, 8, 192, 3584, 61440, 1015808, 16515072);
        counts("xa0 xCa0", 0, 0, 128, 3072, 57344, 983040, 16252928);
        counts("xa0 xa0", 0, 8, 192, 3584);
        counts("naa", 0, 0, 0, 0, 0, 0, 0);
        counts("sab sbc iab", 0, 2, 28, 296, 2800, 24992, 215488);
        counts("sab sbc iab dab", 0, 0, 0, 0, 0, 0, 0);
        Gimlet gimlet = Check.posed("sab", "xab");
        Check.due("the goal does not count", gimlet.models(1), 12L);
        Check.due("the goal does not count by trying", gimlet.modelsByTrying(1), 12L);
    }

    private static void countingLimits() {
        Gimlet gimlet = Check.posed("sab", "");
        for (int elements : new int[] {-1, 7, Integer.MIN_VALUE, Integer.MAX_VALUE}) {
            Check.illegalArgument("models(" + elements + ")", gimlet, () -> gimlet.models(elements));
            Check.illegalArgument("modelsByTrying(" + elements + ")", gimlet, () -> gimlet.modelsByTrying(elements));
        }
        for (int elements = 4; elements <= 6; elements++) {
            int many = elements;
            Check.illegalArgument("modelsByTrying(" + many + ")", gimlet, () -> gimlet.modelsByTrying(many));
        }
    }
}
