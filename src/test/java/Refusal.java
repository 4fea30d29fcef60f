/**
 * Checks calls that are to be refused: the exception that is due, and that nothing has changed, by a twin that was
 * spared the call and has to answer all later calls alike.
 */
final class Refusal {
    private final Check check;
    private final Start start;

    /** Makes an object, always in the same state. */
    interface Start {
        HyphenPatterns make();
    }

    /** A call on an object. */
    interface Call {
        void on(HyphenPatterns x);
    }

    Refusal(Check check, Start start) {
        this.check = check;
        this.start = start;
    }

    void argument(String what, Call call) {
        refused(what, call, "IllegalArgumentException");
    }

    void state(String what, Call call) {
        refused(what, call, "IllegalStateException");
    }

    void bounds(String what, Call call) {
        refused(what, call, "IndexOutOfBoundsException");
    }

    private void refused(String what, Call call, String due) {
        HyphenPatterns asked = start.make();
        check.same(what, Check.thrownBy(() -> call.on(asked)), due);
        check.same(what + ": nothing has changed", Probe.of(asked), Probe.of(start.make()));
    }
}
