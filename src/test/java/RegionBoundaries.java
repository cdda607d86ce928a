/** The edges of promises 13 to 16 and 38, and of the section on regions. */
final class RegionBoundaries {

    private interface Covers {
        boolean in(Gimlet gimlet, int term, int region);
    }

    /** Terms with the same regions as the empty set, or as the universe. */
    private static final String[] NOTHING = {"0", "C1", "Daa", "Saa", "IaCa", "D0a", "DIabUba", "IIICabac"};
    private static final String[] ALL = {"1", "C0", "UaCa", "UCcc", "S1Saa", "UDabUCab", "UUUCabac"};

    /** Each kind of term, with sides that can be told from one another. */
    private static final String[] KINDS = {
        "a", "d", "0", "1", "Cb", "C0", "C1", "Uad", "Iad", "Dad", "Dda", "Sad", "S1a", "D1d", "D0d", "U0c", "I1c",
        "SDabDba", "DSabIcd", "UDacSdb", "CSaDbc", "ISadSbc",
    };

    private RegionBoundaries() {
    }

    static void run() {
        emptyUniverse();
        bits();
        noneAndAll();
        numbers();
        covers(14, "covers", Gimlet::covers);
        covers(15, "coversByTerm", Gimlet::coversByTerm);
        equal();
        shares();
    }

    private static void emptyUniverse() {
        Sentences.about(0, "sets of elements of a universe, which can be empty");
        Check.due("ways to put no element", new Gimlet().models(0), 1L);
        Check.due("no element by trying", new Gimlet().modelsByTrying(0), 1L);
        Gimlet denied = Check.posed("e10", "n10");
        Check.due("a model of no element", denied.isConsistent(), true);
        Check.due("its goal", denied.follows(), false);
        Check.due("its least counterexample", denied.elements(), 0);
        Check.due("the universe has an element", Check.posed("", "i11").follows(), false);
        Check.due("the universe has an element, told why not", Check.posed("", "n10").elementsByTrying(), 0);
    }

    private static void bits() {
        Sentences.about(0, "the region r from 0 to 15");
        String[] covered = {"0101010101010101", "0011001100110011", "0000111100001111", "0000000011111111"};
        Gimlet gimlet = new Gimlet();
        for (int letter = 0; letter < 4; letter++) {
            int term = gimlet.letter(letter);
            for (int region = 0; region < 16; region++) {
                boolean in = covered[letter].charAt(region) == '1';
                Check.due("letter " + letter + ", region " + region, gimlet.covers(term, region), in);
                Check.due("letter " + letter + ", region " + region, gimlet.coversByTerm(term, region), in);
            }
        }
        for (int region = 0; region < 16; region++) {
            Gimlet one = new Gimlet();
            int term = Check.make(one, Scripts.single(region));
            Check.due("one region", one.regions(term), 1);
            Check.due("the region " + region, one.covers(term, region), true);
        }
    }

    private static void noneAndAll() {
        Sentences.about(0, "the empty set covers none, the universe all");
        for (int region = 0; region < 16; region++) {
            Gimlet gimlet = new Gimlet();
            int empty = gimlet.empty();
            int universe = gimlet.universe();
            Check.due("empty, " + region, gimlet.covers(empty, region), false);
            Check.due("empty by term, " + region, gimlet.coversByTerm(empty, region), false);
            Check.due("universe, " + region, gimlet.covers(universe, region), true);
            Check.due("universe by term, " + region, gimlet.coversByTerm(universe, region), true);
        }
    }

    private static void numbers() {
        Sentences.about(13, "Returns the number of regions that a term covers");
        for (int regions = 0; regions <= 16; regions++) {
            Gimlet gimlet = new Gimlet();
            Check.due("regions below " + regions, gimlet.regions(Check.make(gimlet, Scripts.below(regions))), regions);
            Check.due("the others", gimlet.regions(Check.make(gimlet, "C" + Scripts.below(regions))), 16 - regions);
        }
        Sentences.about(13, "Returns the number of regions.");
        for (String text : NOTHING) {
            Gimlet gimlet = new Gimlet();
            Check.due("regions of " + text, gimlet.regions(Check.make(gimlet, text)), 0);
        }
        for (String text : ALL) {
            Gimlet gimlet = new Gimlet();
            Check.due("regions of " + text, gimlet.regions(Check.make(gimlet, text)), 16);
        }
        Gimlet chain = Scripts.CHAIN.play();
        Check.due("regions of 40 symbols", chain.regions(39), 8);
        Check.due("regions of the term 119", Scripts.FULL.play().regions(119), 0);
        Check.due("regions of the term 118", Scripts.FULL.play().regions(118), 16);
        Sentences.about(13, "Throws `IndexOutOfBoundsException`");
        new TermCall("regions", Gimlet::regions).refusesNoTerm();
    }

    private static void covers(int promise, String name, Covers covers) {
        Sentences.about(promise, promise == 14 ? "Tells whether a term covers a region" : "found by going through");
        for (int regions = 0; regions <= 16; regions++) {
            Gimlet gimlet = new Gimlet();
            int term = Check.make(gimlet, Scripts.below(regions));
            for (int region = 0; region < 16; region++) {
                Check.due(region + " below " + regions, covers.in(gimlet, term, region), region < regions);
            }
        }
        for (int size : new int[] {39, 40}) {
            Check.due("region 15 of " + size + " symbols", covers.in(Scripts.CHAIN.play(), size - 1, 15), size == 39);
            Check.due("region 0 of " + size + " symbols", covers.in(Scripts.CHAIN.play(), size - 1, 0), size == 40);
        }
        for (String text : KINDS) {
            Gimlet gimlet = new Gimlet();
            int term = Check.make(gimlet, text);
            for (int region = 0; region < 16; region++) {
                Check.due(text + ", " + region, covers.in(gimlet, term, region), Reference.covers(text, region));
            }
        }
        Sentences.about(promise, "Returns true if it does");
        Gimlet busy = Scripts.BUSY.play();
        Check.due("the region 0 of c", covers.in(busy, 2, 0), false);
        Check.due("the region 3 of c", covers.in(busy, 2, 3), false);
        Check.due("the region 4 of c", covers.in(busy, 2, 4), true);
        Check.due("the region 15 of c", covers.in(busy, 2, 15), true);
        Sentences.about(promise, "Throws `IndexOutOfBoundsException`");
        for (int region : new int[] {0, 15, 16, -1, Integer.MIN_VALUE, Integer.MAX_VALUE}) {
            new TermCall(name + " " + region, (twin, term) -> covers.in(twin, term, region)).refusesNoTerm();
        }
        Sentences.about(promise, "Throws `IllegalArgumentException` if the region is not between 0 and 15");
        for (int term : new int[] {0, 4, 5, 7}) {
            // 32 and 47 would be the regions 0 and 15 if their higher bits were left out.
            for (int region : new int[] {-1, 16, 17, 31, 32, 47, -16, Integer.MIN_VALUE, Integer.MAX_VALUE}) {
                Twins.illegalArgument(name + "(" + term + ", " + region + ")", Scripts.BUSY,
                        twin -> covers.in(twin, term, region));
            }
        }
    }

    private static void equal() {
        Sentences.about(16, "Tells whether two terms cover the same regions");
        for (String text : NOTHING) {
            isEqual("0", text, true);
            isEqual("1", text, false);
            isEqual(Scripts.single(0), text, false);
            isEqual(Scripts.single(15), text, false);
        }
        for (String text : ALL) {
            isEqual("1", text, true);
            isEqual("0", text, false);
            isEqual("C" + Scripts.single(0), text, false);
            isEqual("C" + Scripts.single(15), text, false);
        }
        Sentences.about(16, "Returns true if they do");
        for (int regions = 0; regions < 16; regions++) {
            isEqual(Scripts.below(regions), Scripts.below(regions + 1), false);
            isEqual(Scripts.below(regions), "CC" + Scripts.below(regions), true);
            isEqual(Scripts.below(regions), "C" + Scripts.below(regions), false);
        }
        Gimlet gimlet = Scripts.FULL.play();
        Check.due("the last term and itself", gimlet.isEqual(119, 119), true);
        Sentences.about(16, "Throws `IndexOutOfBoundsException` if there is no such term, for either");
        new TermCall("isEqual left", (twin, term) -> twin.isEqual(term, 0)).refusesNoTerm();
        new TermCall("isEqual right", (twin, term) -> twin.isEqual(0, term)).refusesNoTerm();
        new TermCall("isEqual both", (twin, term) -> twin.isEqual(term, term)).refusesNoTerm();
    }

    private static void isEqual(String left, String right, boolean want) {
        Gimlet gimlet = new Gimlet();
        int first = Check.make(gimlet, left);
        int second = Check.make(gimlet, right);
        Check.due(left + " and " + right, gimlet.isEqual(first, second), want);
        Check.due(right + " and " + left, gimlet.isEqual(second, first), want);
    }

    private static void shares() {
        Sentences.about(38, "Returns the share of the regions that a term covers");
        float[] shares = {
            0f, 0.0625f, 0.125f, 0.1875f, 0.25f, 0.3125f, 0.375f, 0.4375f, 0.5f,
            0.5625f, 0.625f, 0.6875f, 0.75f, 0.8125f, 0.875f, 0.9375f, 1f,
        };
        for (int regions = 0; regions <= 16; regions++) {
            Gimlet gimlet = new Gimlet();
            int term = Check.make(gimlet, Scripts.below(regions));
            Check.due("the share of " + regions, gimlet.density(term), shares[regions]);
        }
        Sentences.about(38, "divided by 16, both converted to float");
        for (String text : NOTHING) {
            Gimlet gimlet = new Gimlet();
            Check.due("the share of " + text, gimlet.density(Check.make(gimlet, text)), 0f);
        }
        for (String text : ALL) {
            Gimlet gimlet = new Gimlet();
            Check.due("the share of " + text, gimlet.density(Check.make(gimlet, text)), 1f);
        }
        Sentences.about(38, "Throws `IndexOutOfBoundsException`");
        new TermCall("density", Gimlet::density).refusesNoTerm();
    }
}
