import java.util.Objects;

/** Compares answers and exceptions with those that are due; each test's main ends with finish(). */
final class Check {

    interface Call {
        Object run();
    }

    private static int calls = 0;
    private static int wrong = 0;
    private static String context = "";

    private Check() {
    }

    static void due(String call, Object got, Object want) {
        calls++;
        if (!Objects.equals(got, want)) {
            wrong++;
            System.out.println(context + call + " answered " + got + ", due is " + want);
        }
    }

    /** What the checks from now on are about; told ahead of each answer that is not as due. */
    static void context(String words) {
        context = words;
    }

    static int calls() {
        return calls;
    }

    static void holds(String what, boolean is) {
        due(what, is, true);
    }

    /**
     * What a call answers, or the exact name of what it throws: a subclass, such as the machine's
     * ArrayIndexOutOfBoundsException, is another name.
     */
    static Object outcome(Call call) {
        try {
            return call.run();
        } catch (RuntimeException | Error e) {
            return "throws " + e.getClass().getName();
        }
    }

    private static void refuses(String what, Gimlet gimlet, Class<?> want, Call call) {
        String before = state(gimlet);
        due(what, outcome(call), "throws " + want.getName());
        due(what + ", the state behind it", state(gimlet), before);
    }

    static void illegalArgument(String what, Gimlet gimlet, Call call) {
        refuses(what, gimlet, IllegalArgumentException.class, call);
    }

    static void illegalState(String what, Gimlet gimlet, Call call) {
        refuses(what, gimlet, IllegalStateException.class, call);
    }

    static void outOfBounds(String what, Gimlet gimlet, Call call) {
        refuses(what, gimlet, IndexOutOfBoundsException.class, call);
    }

    static void noSuchElement(String what, Gimlet gimlet, Call call) {
        refuses(what, gimlet, java.util.NoSuchElementException.class, call);
    }

    static void unsupported(String what, Gimlet gimlet, Call call) {
        refuses(what, gimlet, UnsupportedOperationException.class, call);
    }

    /** A few calls that tell most of the state; few, because an object is good for 512 calls. */
    private static String state(Gimlet gimlet) {
        return gimlet.terms() + " " + gimlet.assumptions() + " " + gimlet.isConsistent()
                + " " + gimlet.models(3) + " " + outcome(gimlet::follows) + " " + outcome(gimlet::elements);
    }

    /** The symbols of a term. */
    static String text(Gimlet gimlet, int term) {
        StringBuilder symbols = new StringBuilder();
        for (int index = 0; index < gimlet.size(term); index++) {
            symbols.append(gimlet.symbol(term, index));
        }
        return symbols.toString();
    }

    /** Makes the term with the symbols by the calls of the face, the left term first. */
    static int make(Gimlet gimlet, String symbols) {
        int[] cursor = {0};
        int made = make(gimlet, symbols, cursor);
        if (cursor[0] != symbols.length()) {
            throw new IllegalStateException("no term: " + symbols);
        }
        return made;
    }

    private static int make(Gimlet gimlet, String symbols, int[] cursor) {
        char head = symbols.charAt(cursor[0]++);
        if (head >= 'a' && head <= 'd') {
            return gimlet.letter(head - 'a');
        }
        if (head == '0') {
            return gimlet.empty();
        }
        if (head == '1') {
            return gimlet.universe();
        }
        int left = make(gimlet, symbols, cursor);
        if (head == 'C') {
            return gimlet.complement(left);
        }
        int right = make(gimlet, symbols, cursor);
        switch (head) {
            case 'U':
                return gimlet.union(left, right);
            case 'I':
                return gimlet.intersection(left, right);
            case 'D':
                return gimlet.difference(left, right);
            default:
                return gimlet.symmetric(left, right);
        }
    }

    /** An object with these statements: each is its kind and both terms, parted by spaces; "" for none. */
    static Gimlet posed(String assumptions, String goal) {
        Gimlet gimlet = new Gimlet();
        for (String one : assumptions.isEmpty() ? new String[0] : assumptions.split(" ")) {
            int[] sides = sides(gimlet, one);
            gimlet.assume(one.charAt(0), sides[0], sides[1]);
        }
        if (!goal.isEmpty()) {
            int[] sides = sides(gimlet, goal);
            gimlet.setGoal(goal.charAt(0), sides[0], sides[1]);
        }
        return gimlet;
    }

    private static int[] sides(Gimlet gimlet, String statement) {
        int end = Reference.end(statement, 1);
        return new int[] {make(gimlet, statement.substring(1, end)), make(gimlet, statement.substring(end))};
    }

    /** Makes 120 terms, of which the first six are a, b, c, d, 0 and 1, and 114 is Ca. */
    static Gimlet full() {
        Gimlet gimlet = new Gimlet();
        for (int letter = 0; letter < 4; letter++) {
            gimlet.letter(letter);
        }
        gimlet.empty();
        gimlet.universe();
        for (int left = 0; left < 6; left++) {
            for (int right = 0; right < 6; right++) {
                gimlet.union(left, right);
                gimlet.intersection(left, right);
                gimlet.difference(left, right);
            }
        }
        for (int term = 0; term < 6; term++) {
            gimlet.complement(term);
        }
        return gimlet;
    }

    static void finish(String test) {
        System.out.println(test + ": " + calls + " answers, " + wrong + " not as due");
        if (wrong != 0 || calls == 0) {
            System.exit(1);
        }
    }
}
