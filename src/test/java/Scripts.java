import java.util.ArrayList;
import java.util.HashMap;
import java.util.List;
import java.util.Map;

/** Objects at the edges of what they can hold, each made by the same calls each time. */
final class Scripts {

    /** A new object. */
    static final Twins.Script NEW = Gimlet::new;

    /** Terms 0 to 7: a, b, c, d, 0, 1, Uab and DUabc; three assumptions and a goal. */
    static final Twins.Script BUSY = Scripts::busy;

    /** The same terms without any statement. */
    static final Twins.Script SILENT = Scripts::silent;

    /** The same terms, six assumptions and a goal. */
    static final Twins.Script SIX = Scripts::six;

    /** 120 terms: 0 to 5 are a, b, c, d, 0 and 1, and 114 is Ca; two assumptions and a goal. */
    static final Twins.Script FULL = Scripts::full;

    /** 120 terms of the letter a alone; the term n below 20 has n + 1 symbols. */
    static final Twins.Script ONLY_A = () -> onlyA(120);

    /** The term n has n + 1 symbols, up to 40; an assumption and a goal. */
    static final Twins.Script CHAIN = Scripts::chain;

    private static final Map<String, Twins.Script> WITH_ROOM = new HashMap<>();

    private Scripts() {
    }

    private static Gimlet silent() {
        Gimlet gimlet = new Gimlet();
        for (String text : new String[] {"a", "b", "c", "d", "0", "1", "DUabc"}) {
            Check.make(gimlet, text);
        }
        return gimlet;
    }

    private static Gimlet busy() {
        Gimlet gimlet = silent();
        gimlet.assume('s', 0, 1);
        gimlet.assume('i', 0, 2);
        gimlet.assume('x', 3, 1);
        gimlet.setGoal('s', 2, 3);
        return gimlet;
    }

    private static Gimlet six() {
        Gimlet gimlet = busy();
        gimlet.assume('d', 0, 3);
        gimlet.assume('n', 6, 2);
        gimlet.assume('e', 4, 4);
        gimlet.setGoal('i', 2, 1);
        return gimlet;
    }

    private static Gimlet full() {
        Gimlet gimlet = Check.full();
        gimlet.assume('s', 0, 1);
        gimlet.assume('i', 0, 2);
        gimlet.setGoal('n', 2, 3);
        return gimlet;
    }

    private static Gimlet chain() {
        Gimlet gimlet = new Gimlet();
        gimlet.letter(0);
        for (int term = 0; term < 39; term++) {
            gimlet.complement(term);
        }
        gimlet.assume('x', 0, 1);
        gimlet.setGoal('e', 38, 39);
        return gimlet;
    }

    static Gimlet onlyA(int terms) {
        Gimlet gimlet = new Gimlet();
        gimlet.letter(0);
        for (int term = 0; term < 19; term++) {
            gimlet.complement(term);
        }
        for (int left = 0; left < 20; left++) {
            for (int right = 0; right < 19 && gimlet.terms() < terms; right++) {
                gimlet.union(left, right);
            }
        }
        return gimlet;
    }

    /** The term of the text, and others behind it, until there is room for just so many terms more. */
    static Twins.Script withRoom(String text, int room) {
        return WITH_ROOM.computeIfAbsent(text + " " + room, key -> filled(text, room));
    }

    /** Symmetric differences of what is known are in no step and in no normal form of the texts here. */
    private static Twins.Script filled(String text, int room) {
        List<String> known = new ArrayList<>();
        Reference.collect(text, known);
        List<int[]> pairs = new ArrayList<>();
        for (int left = 0; left < known.size(); left++) {
            for (int right = 0; right <= left && known.size() < 120 - room; right++) {
                String made = "S" + known.get(left) + known.get(right);
                if (made.length() <= 40 && !known.contains(made)) {
                    known.add(made);
                    pairs.add(new int[] {left, right});
                }
            }
        }
        return () -> {
            Gimlet gimlet = new Gimlet();
            Check.make(gimlet, text);
            for (int[] pair : pairs) {
                gimlet.symmetric(pair[0], pair[1]);
            }
            return gimlet;
        };
    }

    /** A term of so many symbols in which no rule can rewrite anything. */
    static String normal(int size) {
        StringBuilder text = new StringBuilder();
        int left = size;
        while (left > 2) {
            text.append(left / 2 % 2 == 0 ? "Ia" : "Ub");
            left -= 2;
        }
        return text.append(left == 1 ? "c" : "Cc").toString();
    }

    /** A letter with complements ahead of it, of so many symbols. */
    static String complements(int size, char letter) {
        return "C".repeat(size - 1) + letter;
    }

    /** A term that covers the regions below this number. */
    static String below(int regions) {
        return below(regions, 4);
    }

    private static String below(int regions, int letters) {
        int all = 1 << letters;
        if (regions == 0 || regions == all) {
            return regions == 0 ? "0" : "1";
        }
        int half = all / 2;
        String rest = below(regions <= half ? regions : regions - half, letters - 1);
        return (regions <= half ? "I" : "U") + "C" + (char) ('a' + letters - 1) + rest;
    }

    /** A term that covers this region alone. */
    static String single(int region) {
        StringBuilder text = new StringBuilder("III");
        for (int letter = 0; letter < 4; letter++) {
            text.append((region >> letter & 1) == 1 ? "" : "C").append((char) ('a' + letter));
        }
        return text.toString();
    }

    /** A term that covers these regions, of which there is one at least and three at most. */
    static String anyOf(int... regions) {
        StringBuilder text = new StringBuilder("U".repeat(regions.length - 1));
        for (int region : regions) {
            text.append(single(region));
        }
        return text.toString();
    }

    /** The statement that there is an element in one of these regions. */
    static String some(int... regions) {
        return "i1" + anyOf(regions);
    }

    /** The statement that there is no element in these regions. */
    static String none(int... regions) {
        return "d1" + anyOf(regions);
    }
}
