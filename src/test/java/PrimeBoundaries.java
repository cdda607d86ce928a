/** The edges of promises 21 to 23, and of the section on prime implicants. */
final class PrimeBoundaries {

    /** No term has more than 13 prime implicants; this one has as many. */
    private static final String MOST = "UIIabIcdSIabUScdSaSbc";

    private interface Count {
        int of(Gimlet gimlet, int term);
    }

    private PrimeBoundaries() {
    }

    static void run() {
        cubes();
        largest();
        order();
        counts(21, "found by joining implicants that differ in one letter", "primes", Gimlet::primes);
        counts(22, "found by trying all cubes", "primesByTrying", Gimlet::primesByTrying);
        told();
        refused();
    }

    private static void list(String text, String... primes) {
        Gimlet gimlet = new Gimlet();
        int term = Check.make(gimlet, text);
        Check.due("prime implicants of " + text, gimlet.primes(term), primes.length);
        Check.due("prime implicants by trying of " + text, gimlet.primesByTrying(term), primes.length);
        for (int index = 0; index < primes.length; index++) {
            StringBuilder told = new StringBuilder();
            for (int letter = 0; letter < 4; letter++) {
                told.append(Check.outcome(tells(gimlet, term, index, letter)));
            }
            Check.due("prime implicant " + index + " of " + text, told.toString(), primes[index]);
        }
    }

    private static Check.Call tells(Gimlet gimlet, int term, int index, int letter) {
        return () -> gimlet.prime(term, index, letter);
    }

    private static void cubes() {
        Sentences.about(0, "A cube tells for each letter");
        list("1", "----");
        for (int region = 0; region < 16; region++) {
            StringBuilder cube = new StringBuilder();
            for (int letter = 0; letter < 4; letter++) {
                cube.append((region >> letter & 1) == 1 ? '1' : '0');
            }
            list(Scripts.single(region), cube.toString());
        }
        for (int letter = 0; letter < 4; letter++) {
            String name = "" + (char) ('a' + letter);
            list(name, "----".substring(0, letter) + "1" + "----".substring(letter + 1));
            list("C" + name, "----".substring(0, letter) + "0" + "----".substring(letter + 1));
        }
    }

    private static void largest() {
        Sentences.about(0, "it is prime if no other implicant contains all its regions");
        list("0");
        list("Daa");
        list("UaIab", "1---");
        list("UIabIaCb", "1---");
        list("Uab", "-1--", "1---");
        list("UaCa", "----");
        list("C" + Scripts.single(0), "---1", "--1-", "-1--", "1---");
        list("C" + Scripts.single(15), "---0", "--0-", "-0--", "0---");
        // The implicants of two joined ones are none of the prime ones, but the third one between is.
        list("UIabICac", "-11-", "0-1-", "11--");
    }

    private static void order() {
        Sentences.about(0, "ordered by their letters, the letter 0 first");
        list("UCab", "-1--", "0---");
        list("Sab", "01--", "10--");
        list("UIabICaCb", "00--", "11--");
        list("Uad", "---1", "1---");
        list("UaIbc", "-11-", "1---");
        list("UUIabICacIbc", "-11-", "0-1-", "11--");
        list(MOST, "-001", "-010", "-100", "0-01", "0-10", "00-1", "001-",
                "01-0", "010-", "1-00", "10-0", "100-", "1111");
    }

    private static void counts(int promise, String words, String name, Count count) {
        Sentences.about(promise, words);
        Gimlet most = new Gimlet();
        Check.due(name + " of " + MOST, count.of(most, Check.make(most, MOST)), 13);
        Gimlet single = new Gimlet();
        Check.due(name + " of SSSabcd", count.of(single, Check.make(single, "SSSabcd")), 8);
        int[] below = {0, 1, 1, 2, 1, 2, 2, 3, 1, 2, 2, 3, 2, 3, 3, 4, 1};
        for (int regions = 0; regions <= 16; regions++) {
            Gimlet gimlet = new Gimlet();
            int term = Check.make(gimlet, Scripts.below(regions));
            Check.due(name + " below " + regions, count.of(gimlet, term), below[regions]);
            Check.due("terms()", gimlet.terms(), term + 1);
        }
        Sentences.about(promise, "Returns the number of prime implicants.");
        Gimlet full = Scripts.FULL.play();
        Check.due(name + " of the term 118, C0", count.of(full, 118), 1);
        Check.due(name + " of the term 119, C1", count.of(full, 119), 0);
        Check.due(name + " of 40 symbols", count.of(Scripts.CHAIN.play(), 39), 1);
        Twins.changesNothing(name, 1, Scripts.CHAIN, twin -> count.of(twin, 39));
        Sentences.about(promise, "Throws `IndexOutOfBoundsException`");
        new TermCall(name, count::of).refusesNoTerm();
    }

    private static void told() {
        Sentences.about(23, "prime implicants are counted from 0 in their order");
        Gimlet gimlet = new Gimlet();
        int term = Check.make(gimlet, "Sab");
        Check.due("the first", gimlet.prime(term, 0, 0), '0');
        Check.due("the last", gimlet.prime(term, 1, 0), '1');
        Sentences.about(23, "Returns '1', '0' or '-'");
        Check.due("letter 0", gimlet.prime(term, 0, 0), '0');
        Check.due("letter 1", gimlet.prime(term, 0, 1), '1');
        Check.due("letter 2", gimlet.prime(term, 0, 2), '-');
        Check.due("letter 3", gimlet.prime(term, 0, 3), '-');
        int last = Check.make(gimlet, "IcCd");
        Check.due("letter 2 of another", gimlet.prime(last, 0, 2), '1');
        Check.due("letter 3 of another", gimlet.prime(last, 0, 3), '0');
    }

    private static void refused() {
        int[] far = {-1, 4, 5, 97, Integer.MIN_VALUE, Integer.MAX_VALUE};
        Sentences.about(23, "Throws `IndexOutOfBoundsException`");
        new TermCall("prime", (twin, term) -> twin.prime(term, 0, 0)).refusesNoTerm();
        new TermCall("prime -1", (twin, term) -> twin.prime(term, -1, 0)).refusesNoTerm();
        new TermCall("prime 99 of no letter", (twin, term) -> twin.prime(term, 99, 4)).refusesNoTerm();
        Sentences.about(23, "Throws `NoSuchElementException` if it has no such prime implicant");
        String[] texts = {"0", "1", "a", "Sab", "SSSabcd", MOST};
        int[] counts = {0, 1, 1, 2, 8, 13};
        for (int text = 0; text < texts.length; text++) {
            Twins.Script script = Scripts.withRoom(texts[text], 3);
            String symbols = texts[text];
            int last = counts[text] - 1;
            for (int index : new int[] {-1, last + 1, last + 2, 80, 81, Integer.MIN_VALUE, Integer.MAX_VALUE}) {
                Twins.noSuchElement("prime implicant " + index + " of " + symbols, script,
                        twin -> twin.prime(Check.make(twin, symbols), index, 0));
                Twins.noSuchElement("prime implicant " + index + " of " + symbols + ", no letter", script,
                        twin -> twin.prime(Check.make(twin, symbols), index, 4));
            }
            Gimlet gimlet = script.play();
            int term = Check.make(gimlet, symbols);
            Check.holds("the last one of " + symbols, last < 0 || gimlet.prime(term, last, 3) != ' ');
        }
        Sentences.about(23, "Throws `IllegalArgumentException` if the letter is not between 0 and 3");
        for (int letter : far) {
            Twins.illegalArgument("letter " + letter, Scripts.BUSY, twin -> twin.prime(0, 0, letter));
            Twins.illegalArgument("letter " + letter + " of two", Scripts.BUSY, twin -> twin.prime(6, 1, letter));
            Twins.illegalArgument("letter " + letter + " of 1", Scripts.BUSY, twin -> twin.prime(5, 0, letter));
        }
    }
}
