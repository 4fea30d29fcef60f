import java.util.ArrayList;
import java.util.Arrays;
import java.util.List;
import java.util.Random;

/** Random runs of at most 512 calls, each answer compared with the model's. The seeds are fixed. */
public final class ModelTest {
    private static final int RUNS = 300;
    private static final int CALLS = 512;
    private static final int END = HyphenPatterns.END;
    private static final int[] ODD_NUMBERS = {Integer.MIN_VALUE, Integer.MAX_VALUE, 1114111, 1114112, 1114110, -1, 0, -10,
        -11, -12, 1, 20, 21, 40, 41, 400, 401};
    private static final Check CHECK = new Check();

    /** The calls of the face. */
    private enum Kind { CHOOSE, LETTERS, LEAST, TELL, DROP, PATTERN, EXCEPTION, FORGET, ADD, CLEAR, VALUE, BREAKS, WORD, COUNT }

    private static final Kind[] KINDS = Kind.values();

    private final String name;
    private final Random random;
    private final HyphenPatterns real = new HyphenPatterns();
    private final Model model = new Model();
    /** How many kinds of letters the run has: few make matches many. */
    private final int alphabet;
    /** How many of a thousand numbers are odd ones. */
    private final int oddity;
    /** How many of a hundred characters are spaces. */
    private final int spaces;
    /** One call in so many throws away what the run has built up. */
    private final int patience;
    private int calls = 0;
    private int size = 0;

    private ModelTest(int seed) {
        name = "seed " + seed;
        random = new Random(seed);
        alphabet = 1 + random.nextInt(6);
        oddity = random.nextInt(3) * 15;
        spaces = random.nextInt(25);
        patience = 20 + random.nextInt(300);
    }

    public static void main(String[] args) {
        for (int seed = 0; seed < RUNS; seed++) {
            new ModelTest(seed).run();
        }
        CHECK.end();
    }

    private void run() {
        if (chance(90)) {
            call(Kind.LETTERS, 97, 96 + alphabet, 97);
        }
        while (calls < CALLS - 20) {
            int roll = random.nextInt(100);
            if (roll < 12) {
                wholeRule();
            } else if (roll < 30) {
                call(Kind.ADD, toAdd());
            } else if (random.nextInt(patience) == 0) {
                call(chance(50) ? Kind.FORGET : Kind.CLEAR);
            } else {
                anyCall();
            }
        }
    }

    private void anyCall() {
        Kind kind = KINDS[random.nextInt(KINDS.length)];
        switch (kind) {
            case CHOOSE: call(kind, chance(70) ? 0 : usual(4)); break;
            case LETTERS: call(kind, range()); break;
            case LEAST: call(kind, 1 + usual(4), 1 + usual(4)); break;
            case TELL: call(kind, toTell()); break;
            case WORD: call(kind, usual(12), random.nextInt(2)); break;
            case COUNT: call(kind, usual(6)); break;
            case FORGET: case CLEAR: call(Kind.COUNT, random.nextInt(5)); break;
            case ADD: call(kind, toAdd()); break;
            case VALUE: case BREAKS: call(kind, usual(size + 1)); break;
            default: call(kind);
        }
    }

    /** A pattern or an exception that is well told most of the time, often one that is in the text. */
    private void wholeRule() {
        boolean pattern = chance(65);
        List<Integer> letters = chance(60) ? fromText(pattern) : madeUp();
        List<Integer> row = new ArrayList<>();
        int marks = random.nextInt(100);
        for (int i = 0; i <= letters.size(); i++) {
            if (chance(marks)) {
                row.add(pattern ? -1 - random.nextInt(9) : HyphenPatterns.HYPHEN);
            }
            if (i < letters.size()) {
                row.add(letters.get(i));
            }
        }
        call(Kind.DROP);
        for (int from = 0; from < row.size() && from < 45; from += 5) {
            int[] five = {END, END, END, END, END};
            for (int i = 0; i < 5 && from + i < row.size(); i++) {
                five[i] = row.get(from + i);
            }
            call(Kind.TELL, five);
        }
        call(pattern ? Kind.PATTERN : Kind.EXCEPTION);
    }

    private List<Integer> fromText(boolean pattern) {
        List<Integer> word = model.spelled(random.nextInt(6));
        if (!pattern) {
            return word.subList(1, word.size() - 1);
        }
        int from = chance(20) ? 0 : random.nextInt(word.size());
        int to = Math.min(word.size(), from + 1 + random.nextInt(chance(80) ? 4 : 17));
        return word.subList(from, to);
    }

    private List<Integer> madeUp() {
        List<Integer> letters = new ArrayList<>();
        int many = random.nextInt(chance(80) ? 5 : 20);
        for (int i = 0; i < many; i++) {
            letters.add(97 + random.nextInt(alphabet));
        }
        return letters;
    }

    private int[] range() {
        int first = 97 + usual(alphabet);
        int last = chance(10) ? 97 + usual(alphabet) : first + random.nextInt(alphabet);
        int to = chance(15) ? 0 : 97 + usual(alphabet);
        return new int[] {first, last, to};
    }

    private int[] toTell() {
        int[] five = new int[5];
        for (int i = 0; i < 5; i++) {
            int roll = random.nextInt(20);
            five[i] = roll < 12 ? 97 + usual(alphabet) : roll < 16 ? -1 - random.nextInt(10) : roll < 17 ? 0 : END;
        }
        return five;
    }

    private int[] toAdd() {
        int[] five = new int[5];
        for (int i = 0; i < 5; i++) {
            five[i] = chance(5) ? END : chance(spaces) ? 32 : 97 + usual(alphabet);
        }
        return five;
    }

    private boolean chance(int ofHundred) {
        return random.nextInt(100) < ofHundred;
    }

    private int usual(int below) {
        return random.nextInt(1000) < oddity ? ODD_NUMBERS[random.nextInt(ODD_NUMBERS.length)] : random.nextInt(below);
    }

    private void call(Kind kind, int... n) {
        calls++;
        long want = ofModel(kind, n);
        CHECK.same(name + ", call " + calls + ", " + kind + Arrays.toString(n), ofReal(kind, n), want);
        if (kind == Kind.ADD && want < Model.ARGUMENT) {
            size = (int) want;
        }
    }

    private long ofModel(Kind kind, int[] n) {
        switch (kind) {
            case CHOOSE: return model.choose(n[0]);
            case LETTERS: return model.letters(n[0], n[1], n[2]);
            case LEAST: return model.least(n[0], n[1]);
            case TELL: return model.tell(n);
            case DROP: return model.drop();
            case PATTERN: return model.pattern();
            case EXCEPTION: return model.exception();
            case FORGET: return model.forget();
            case ADD: return model.add(n);
            case CLEAR: return model.clear();
            case VALUE: return model.value(n[0]);
            case BREAKS: return model.breaks(n[0]);
            case WORD: return model.word(n[0], n[1] == 1);
            default: return model.count(n[0]);
        }
    }

    private long ofReal(Kind kind, int[] n) {
        try {
            return callReal(kind, n);
        } catch (RuntimeException thrown) {
            // The very classes: the machine's own exceptions stand below these and must not come out.
            if (thrown.getClass() == IllegalArgumentException.class) {
                return Model.ARGUMENT;
            }
            if (thrown.getClass() == IllegalStateException.class) {
                return Model.STATE;
            }
            return thrown.getClass() == IndexOutOfBoundsException.class ? Model.BOUNDS : Long.MIN_VALUE;
        }
    }

    private long callReal(Kind kind, int[] n) {
        switch (kind) {
            case CHOOSE: return real.choose(n[0]);
            case LETTERS: real.letters(n[0], n[1], n[2]); return 0;
            case LEAST: real.least(n[0], n[1]); return 0;
            case TELL: return real.tell(n[0], n[1], n[2], n[3], n[4]);
            case DROP: return real.drop();
            case PATTERN: return real.pattern();
            case EXCEPTION: return real.exception();
            case FORGET: return real.forget();
            case ADD: return real.add(n[0], n[1], n[2], n[3], n[4]);
            case CLEAR: return real.clear();
            case VALUE: return real.value(n[0]);
            case BREAKS: return real.breaks(n[0]) ? 1 : 0;
            case WORD: return real.word(n[0], n[1] == 1);
            default: return real.count(n[0]);
        }
    }
}
