import java.util.function.IntSupplier;

/**
 * What some 350 later calls answer, as one text. It shows the telling, the text, the language chosen and, of every
 * language, words, values, breaks, counts and how many ranges and exceptions there is room for.
 */
final class Probe {
    private static final int END = HyphenPatterns.END;
    private static final int LANGUAGES = 4;
    /** Of a long text only so many places at each end are looked at. */
    private static final int PLACES = 6;

    private final HyphenPatterns x;
    private final StringBuilder seen = new StringBuilder();

    private Probe(HyphenPatterns x) {
        this.x = x;
    }

    static String of(HyphenPatterns x) {
        Probe probe = new Probe(x);
        int chosen = x.choose(0);
        probe.note("chosen", () -> chosen);
        for (int language = 0; language < LANGUAGES; language++) {
            x.choose(language);
            probe.language();
        }
        x.choose(chosen);
        probe.telling();
        probe.room();
        return probe.seen.toString();
    }

    private void note(String what, IntSupplier call) {
        seen.append(' ').append(what).append('=').append(answer(call));
    }

    private static String answer(IntSupplier call) {
        try {
            return String.valueOf(call.getAsInt());
        } catch (RuntimeException thrown) {
            return thrown.getClass().getSimpleName();
        }
    }

    private void language() {
        for (int what = 0; what <= 4; what++) {
            int asked = what;
            note("count" + what, () -> x.count(asked));
        }
        for (int k = 0; k <= 2; k++) {
            int asked = k;
            note("word" + k, () -> x.word(asked, false));
            note("end" + k, () -> x.word(asked, true));
        }
        places();
    }

    private void places() {
        int size = x.add(END, 0, 0, 0, 0);
        note("size", () -> size);
        for (int place = -1; place <= size + 1; place++) {
            if (place < PLACES || place > size - PLACES) {
                int asked = place;
                note("value" + place, () -> x.value(asked));
                note("breaks" + place, () -> x.breaks(asked) ? 1 : 0);
            }
        }
    }

    /** What is told is seen by what it becomes, in the language chosen. */
    private void telling() {
        note("told", () -> x.tell(END, 0, 0, 0, 0));
        note("pattern", x::pattern);
        note("exception", x::exception);
        note("dropped", x::drop);
        language();
    }

    private void room() {
        for (int language = 0; language < LANGUAGES; language++) {
            x.choose(language);
            note("ranges", this::freeRanges);
        }
        note("exceptions", this::freeExceptions);
    }

    private int freeRanges() {
        for (int i = 0; i <= 20; i++) {
            if (!Check.thrownBy(() -> x.letters(5, 5, 5)).equals(Check.NOTHING)) {
                return i;
            }
        }
        return 21;
    }

    private int freeExceptions() {
        for (int i = 0; i <= 40; i++) {
            x.tell(1000 + i, END, 0, 0, 0);
            if (!Check.thrownBy(x::exception).equals(Check.NOTHING)) {
                return i;
            }
        }
        return 41;
    }
}
