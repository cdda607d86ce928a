/** A call that takes the number of a term; there is no such term below 0 and behind the last one. */
final class TermCall {

    interface Call {
        Object on(Gimlet gimlet, int term);
    }

    private static final String REFUSED = "throws " + IndexOutOfBoundsException.class.getName();

    private final String name;
    private final Call call;

    TermCall(String name, Call call) {
        this.name = name;
        this.call = call;
    }

    /** With no term, with eight and with 120, the least and the greatest number and the next on each side. */
    void refusesNoTerm() {
        refused(Scripts.NEW, 0);
        refused(Scripts.NEW, -1);
        taken(Scripts.BUSY, 0);
        taken(Scripts.BUSY, 7);
        refused(Scripts.BUSY, -1);
        refused(Scripts.BUSY, 8);
        refused(Scripts.BUSY, 119);
        refused(Scripts.BUSY, Integer.MIN_VALUE);
        refused(Scripts.BUSY, Integer.MAX_VALUE);
        taken(Scripts.FULL, 0);
        taken(Scripts.FULL, 119);
        refused(Scripts.FULL, -1);
        refused(Scripts.FULL, 120);
    }

    private void refused(Twins.Script script, int term) {
        Twins.outOfBounds(name + "(" + term + ")", script, twin -> call.on(twin, term));
    }

    /** It may be refused for another reason. */
    private void taken(Twins.Script script, int term) {
        Gimlet gimlet = script.play();
        Object outcome = Check.outcome(() -> call.on(gimlet, term));
        Check.holds(name + "(" + term + ") finds the term", !REFUSED.equals(outcome));
    }
}
