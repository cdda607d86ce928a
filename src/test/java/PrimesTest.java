/** Promises 21 to 23: the prime implicants. */
public final class PrimesTest {

    public static void main(String[] args) {
        lists("0");
        lists("1", "----");
        lists("a", "1---");
        lists("Cd", "---0");
        lists("Sab", "01--", "10--");
        lists("CSab", "00--", "11--");
        lists("Uab", "-1--", "1---");
        lists("UIabICac", "-11-", "0-1-", "11--");
        lists("IIIabcd", "1111");
        lists("CUUUabcd", "0000");
        lists("UUUabcd", "---1", "--1-", "-1--", "1---");
        lists("UUIaCbIbCcIcCa", "-01-", "-10-", "0-1-", "01--", "1-0-", "10--");
        lists("SSSabcd", "0001", "0010", "0100", "0111", "1000", "1011", "1101", "1110");
        allCovers();
        wrongInputs();
        Check.finish("PrimesTest");
    }

    private static void lists(String text, String... primes) {
        Gimlet gimlet = new Gimlet();
        int term = Check.make(gimlet, text);
        int known = gimlet.terms();
        Check.due("primes of " + text, gimlet.primes(term), primes.length);
        Check.due("primes by trying of " + text, gimlet.primesByTrying(term), primes.length);
        for (int index = 0; index < primes.length; index++) {
            for (int letter = 0; letter < 4; letter++) {
                Check.due("prime " + index + " of " + text + " for " + letter,
                        gimlet.prime(term, index, letter), primes[index].charAt(letter));
            }
        }
        Check.noSuchElement("prime behind the last of " + text, gimlet, () -> gimlet.prime(term, primes.length, 0));
        Check.noSuchElement("prime -1 of " + text, gimlet, () -> gimlet.prime(term, -1, 0));
        Check.due("no term is made", gimlet.terms(), known);
    }

    /** Many covers, each as a union of regions or the complement of one. */
    private static void allCovers() {
        for (int cover = 0; cover < 1 << 16; cover += 97) {
            Gimlet gimlet = new Gimlet();
            Reference reference = new Reference();
            int term = madeOf(gimlet, reference, cover);
            if (term < 0) {
                continue;
            }
            java.util.List<String> primes = reference.primesOf(term);
            Check.due("primes of cover " + cover, gimlet.primes(term), primes.size());
            Check.due("primes by trying of cover " + cover, gimlet.primesByTrying(term), primes.size());
            for (int index = 0; index < primes.size(); index++) {
                StringBuilder told = new StringBuilder();
                for (int letter = 0; letter < 4; letter++) {
                    told.append(gimlet.prime(term, index, letter));
                }
                Check.due("prime " + index + " of cover " + cover, told.toString(), primes.get(index));
            }
        }
    }

    /** A term that covers just these regions, built as a choice by each letter; -1 if it is too large. */
    private static int madeOf(Gimlet gimlet, Reference reference, int cover) {
        String text = choice(cover, 0, 3);
        if (text.length() > 40) {
            return -1;
        }
        int term = Check.make(gimlet, text);
        int same = make(reference, text);
        Check.due("number of " + text, term, same);
        return term;
    }

    /** Shannon's expansion by the letters from the highest on. */
    private static String choice(int cover, int from, int letter) {
        int width = 2 << letter;
        int part = cover >> from & (1 << width) - 1;
        if (part == 0 || part == (1 << width) - 1) {
            return part == 0 ? "0" : "1";
        }
        String without = choice(cover, from, letter - 1);
        String with = choice(cover, from + width / 2, letter - 1);
        char name = (char) ('a' + letter);
        if (without.equals(with)) {
            return with;
        }
        if (without.equals("0")) {
            return with.equals("1") ? "" + name : "I" + name + with;
        }
        if (with.equals("0")) {
            return without.equals("1") ? "C" + name : "D" + without + name;
        }
        if (with.equals("1")) {
            return "U" + name + without;
        }
        return without.equals("1") ? "UC" + name + with : "UD" + without + name + "I" + name + with;
    }

    private static int make(Reference reference, String text) {
        char head = text.charAt(0);
        if (head >= 'a' && head <= 'd') {
            return reference.letter(head - 'a');
        }
        if (head == '0') {
            return reference.empty();
        }
        if (head == '1') {
            return reference.universe();
        }
        if (head == 'C') {
            return reference.complement(make(reference, text.substring(1)));
        }
        int left = make(reference, Reference.left(text));
        return reference.pair(head, left, make(reference, Reference.right(text)));
    }

    private static void wrongInputs() {
        Gimlet gimlet = new Gimlet();
        int term = Check.make(gimlet, "Sab");
        int wrong = gimlet.terms();
        for (int letter : new int[] {-1, 4, Integer.MIN_VALUE, Integer.MAX_VALUE}) {
            Check.illegalArgument("prime(term, 0, " + letter + ")", gimlet, () -> gimlet.prime(term, 0, letter));
            Check.noSuchElement("prime(term, 2, " + letter + ")", gimlet, () -> gimlet.prime(term, 2, letter));
            Check.outOfBounds("prime(wrong, 2, " + letter + ")", gimlet, () -> gimlet.prime(wrong, 2, letter));
        }
        for (int index : new int[] {-1, 2, Integer.MIN_VALUE, Integer.MAX_VALUE}) {
            Check.noSuchElement("prime(term, " + index + ", 0)", gimlet, () -> gimlet.prime(term, index, 0));
        }
        for (int number : new int[] {-1, wrong, 120, Integer.MIN_VALUE, Integer.MAX_VALUE}) {
            Check.outOfBounds("primes(" + number + ")", gimlet, () -> gimlet.primes(number));
            Check.outOfBounds("primesByTrying(" + number + ")", gimlet, () -> gimlet.primesByTrying(number));
            Check.outOfBounds("prime(" + number + ", 0, 0)", gimlet, () -> gimlet.prime(number, 0, 0));
        }
    }
}
