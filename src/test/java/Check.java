/** Compares answers with those that are due, prints the wrong ones and counts them. */
final class Check {
    static final String NOTHING = "nothing";
    private String sentence = "";
    private int wrong = 0;
    private int made = 0;

    /** A call that may throw. */
    interface Call {
        void run();
    }

    /** The promise and the sentence of the document that the checks from here on are for. */
    void about(String promise, String words) {
        sentence = promise + " \"" + words + "\": ";
    }

    void same(String what, long got, long want) {
        made++;
        if (got != want) {
            wrong++;
            System.out.println(sentence + what + " answered " + got + ", due is " + want);
        }
    }

    void same(String what, boolean got, boolean want) {
        same(what, got ? 1 : 0, want ? 1 : 0);
    }

    void same(String what, String got, String want) {
        made++;
        if (!got.equals(want)) {
            wrong++;
            System.out.println(sentence + what + " gave " + got + ", due is " + want);
        }
    }

    void argument(String what, Call call) {
        same(what, thrownBy(call), "IllegalArgumentException");
    }

    void state(String what, Call call) {
        same(what, thrownBy(call), "IllegalStateException");
    }

    void bounds(String what, Call call) {
        same(what, thrownBy(call), "IndexOutOfBoundsException");
    }

    void fine(String what, Call call) {
        same(what, thrownBy(call), NOTHING);
    }

    static String thrownBy(Call call) {
        try {
            call.run();
            return NOTHING;
        } catch (RuntimeException thrown) {
            return thrown.getClass().getSimpleName();
        }
    }

    void end() {
        System.out.println(made + " checks, " + wrong + " wrong");
        if (wrong != 0) {
            System.exit(1);
        }
    }
}
