import java.util.ArrayList;
import java.util.IdentityHashMap;
import java.util.List;
import java.util.Map;

/**
 * Shows that a call changes nothing: two objects go through the same calls, one makes the call in
 * question besides, and everything that can be asked of them, and everything that can be done next,
 * has to have the same outcome for both.
 */
final class Twins {

    /** The calls that an object goes through first, some 200 at most; the same ones each time. */
    interface Script {
        Gimlet play();
    }

    interface Call {
        Object on(Gimlet gimlet);
    }

    private static final class Question {
        final String name;
        final int calls;
        final Call call;

        Question(String name, int calls, Call call) {
            this.name = name;
            this.calls = calls;
            this.call = call;
        }
    }

    /** So many calls at most go to one twin behind its script: an object is good for 512 calls. */
    private static final int MOST_CALLS = 280;

    private static final Map<Script, List<List<Question>>> ASKED = new IdentityHashMap<>();
    private static final Map<Script, List<String>> UNTOUCHED = new IdentityHashMap<>();

    private Twins() {
    }

    static void illegalArgument(String what, Script script, Call call) {
        refuses(what, IllegalArgumentException.class, script, call);
    }

    static void illegalState(String what, Script script, Call call) {
        refuses(what, IllegalStateException.class, script, call);
    }

    static void outOfBounds(String what, Script script, Call call) {
        refuses(what, IndexOutOfBoundsException.class, script, call);
    }

    static void noSuchElement(String what, Script script, Call call) {
        refuses(what, java.util.NoSuchElementException.class, script, call);
    }

    static void unsupported(String what, Script script, Call call) {
        refuses(what, UnsupportedOperationException.class, script, call);
    }

    /** The call throws exactly this, no class below it, and nothing has changed behind it. */
    private static void refuses(String what, Class<?> exception, Script script, Call call) {
        changesNothing(what, "throws " + exception.getName(), script, call);
    }

    static void changesNothing(String what, Object want, Script script, Call call) {
        Gimlet gimlet = script.play();
        Check.due(what, Check.outcome(() -> call.on(gimlet)), want);
        List<List<Question>> asked = ASKED.computeIfAbsent(script, Twins::questions);
        List<String> untouched = UNTOUCHED.computeIfAbsent(script, same -> answers(same, asked, null));
        List<String> touched = answers(script, asked, call);
        for (int index = 0; index < touched.size(); index++) {
            if (!touched.get(index).equals(untouched.get(index))) {
                Check.due("behind " + what + ", one of its answers", touched.get(index), untouched.get(index));
                return;
            }
        }
        Check.holds("behind " + what + " there are answers to compare", touched.size() > 50);
    }

    private static List<String> answers(Script script, List<List<Question>> asked, Call call) {
        List<String> answers = new ArrayList<>();
        for (List<Question> questions : asked) {
            Gimlet gimlet = script.play();
            if (call != null) {
                Check.outcome(() -> call.on(gimlet));
            }
            for (Question question : questions) {
                answers.add(question.name + ": " + Check.outcome(() -> question.call.on(gimlet)));
            }
        }
        return answers;
    }

    /** Parts that go to a new twin each. */
    private static List<List<Question>> questions(Script script) {
        Gimlet gimlet = script.play();
        List<List<Question>> parts = new ArrayList<>();
        List<Question> part = new ArrayList<>();
        int calls = 0;
        for (Question question : looks(gimlet)) {
            if (calls + question.calls > MOST_CALLS) {
                parts.add(part);
                part = new ArrayList<>();
                calls = 0;
            }
            part.add(question);
            calls += question.calls;
        }
        parts.add(part);
        // What changes something needs a twin of its own.
        for (Question question : changes(gimlet)) {
            parts.add(List.of(question));
        }
        return parts;
    }

    private static List<Question> looks(Gimlet gimlet) {
        List<Question> looks = new ArrayList<>();
        looks.add(new Question("terms", 1, Gimlet::terms));
        for (int number = 0; number < gimlet.terms(); number++) {
            int term = number;
            int size = gimlet.size(term);
            looks.add(new Question("text " + term, 1 + size, twin -> text(twin, term)));
            looks.add(new Question("regions " + term, 33, twin -> covered(twin, term)));
            looks.add(new Question("rule " + term, 1, twin -> twin.rule(term)));
            looks.add(new Question("steps " + term, 1, twin -> twin.steps(term)));
            looks.add(new Question("primes " + term, 1, twin -> twin.primes(term)));
        }
        looks.add(new Question("assumptions", 1, Gimlet::assumptions));
        looks.add(new Question("isConsistent", 1, Gimlet::isConsistent));
        for (int number = 0; number < 16; number++) {
            int region = number;
            looks.add(new Question("deniedBy " + region, 1, twin -> twin.deniedBy(region)));
            looks.add(new Question("region " + region, 1, twin -> twin.region(region)));
        }
        for (int number = 0; number <= 6; number++) {
            int elements = number;
            looks.add(new Question("models " + elements, 1, twin -> twin.models(elements)));
        }
        looks.add(new Question("modelsByTrying", 1, twin -> twin.modelsByTrying(2)));
        looks.add(new Question("follows", 1, Gimlet::follows));
        looks.add(new Question("why", 1, Gimlet::why));
        looks.add(new Question("witness", 1, Gimlet::witness));
        looks.add(new Question("elements", 1, Gimlet::elements));
        looks.add(new Question("elementsByTrying", 1, Gimlet::elementsByTrying));
        return looks;
    }

    private static String text(Gimlet gimlet, int term) {
        int size = gimlet.size(term);
        StringBuilder text = new StringBuilder();
        for (int index = 0; index < size; index++) {
            text.append(gimlet.symbol(term, index));
        }
        return text.toString();
    }

    private static String covered(Gimlet gimlet, int term) {
        StringBuilder regions = new StringBuilder().append(gimlet.density(term));
        for (int region = 0; region < 16; region++) {
            regions.append(gimlet.covers(term, region)).append(gimlet.coversByTerm(term, region));
        }
        return regions.toString();
    }

    private static List<Question> changes(Gimlet gimlet) {
        int last = gimlet.terms() - 1;
        List<Question> changes = new ArrayList<>();
        for (int number = 0; number < 4; number++) {
            int letter = number;
            change(changes, "letter " + letter, twin -> twin.letter(letter));
        }
        change(changes, "empty", Gimlet::empty);
        change(changes, "universe", Gimlet::universe);
        change(changes, "complement", twin -> twin.complement(last));
        change(changes, "union", twin -> twin.union(last, 0));
        change(changes, "intersection", twin -> twin.intersection(0, last));
        change(changes, "difference", twin -> twin.difference(last, last));
        change(changes, "symmetric", twin -> twin.symmetric(last, 0));
        change(changes, "step", twin -> twin.step(last));
        change(changes, "normalForm", twin -> twin.normalForm(last));
        change(changes, "assume", twin -> twin.assume('x', 0, last));
        change(changes, "drop", Gimlet::drop);
        change(changes, "setGoal", twin -> twin.setGoal('n', last, 0));
        return changes;
    }

    private static void change(List<Question> changes, String name, Call call) {
        changes.add(new Question(name, 6, twin -> Check.outcome(() -> call.on(twin)) + ", terms " + twin.terms()
                + ", assumptions " + twin.assumptions() + ", models " + twin.models(3) + ", follows "
                + Check.outcome(twin::follows)));
    }
}
