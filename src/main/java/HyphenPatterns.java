import java.util.ArrayList;
import java.util.Arrays;

/** Tells where the words of a text may be broken, by patterns and exceptions of up to four languages. */
public final class HyphenPatterns {
    public static final int NONE = -1;
    public static final int EDGE = 0;
    public static final int HYPHEN = -10;
    public static final int END = -11;

    private static final int FIRST_CHARACTER = 1;
    private static final int LAST_CHARACTER = 1114111;
    private static final int NO_LETTER = 0;
    private static final int LANGUAGES = 4;
    private static final int MOST_RANGES = 20;
    private static final int MOST_LEAST = 20;
    private static final int MOST_TOLD = 40;
    private static final int MOST_PATTERN_LETTERS = 16;
    private static final int MOST_EXCEPTION_LETTERS = 40;
    private static final int MOST_PATTERNS = 300;
    private static final int MOST_EXCEPTIONS = 40;
    private static final int MOST_TEXT = 400;
    private static final int AT_ONCE = 5;

    private final Language[] languages = new Language[LANGUAGES];
    private final Numbers telling = new Numbers(MOST_TOLD, HYPHEN);
    private final Numbers text = new Numbers(MOST_TEXT, FIRST_CHARACTER);
    private final Draft draft = new Draft();
    private final Reading reading = new Reading();
    private int chosen = 0;

    public HyphenPatterns() {
        for (int i = 0; i < LANGUAGES; i++) {
            languages[i] = new Language();
        }
    }

    public int choose(int language) throws IndexOutOfBoundsException {
        if (language < 0 || language >= LANGUAGES) {
            throw new IndexOutOfBoundsException("there is no such language");
        }
        int before = chosen;
        chosen = language;
        return before;
    }

    public void letters(int first, int last, int to) throws IllegalArgumentException, IllegalStateException {
        if (!isCharacter(first) || !isCharacter(last) || first > last) {
            throw new IllegalArgumentException("these are no bounds of a range");
        }
        // Subtracting from the top keeps a huge 'to' from wrapping around.
        if (to < 0 || to > LAST_CHARACTER - (last - first)) {
            throw new IllegalArgumentException("these are no letters");
        }
        if (languages[chosen].ranges >= MOST_RANGES) {
            throw new IllegalStateException("the language has all its ranges");
        }
        languages[chosen].addRange(first, last, to);
    }

    public void least(int left, int right) throws IllegalArgumentException {
        if (left < 1 || left > MOST_LEAST || right < 1 || right > MOST_LEAST) {
            throw new IllegalArgumentException("a least number is 1 to 20");
        }
        languages[chosen].left = left;
        languages[chosen].right = right;
    }

    public int tell(int a, int b, int c, int d, int e) throws IllegalArgumentException, IllegalStateException {
        return telling.append(a, b, c, d, e);
    }

    public int drop() {
        return telling.empty();
    }

    public int pattern() throws IllegalArgumentException, IllegalStateException {
        if (!draft.readPattern(telling)) {
            throw new IllegalArgumentException("the telling is no pattern");
        }
        return keepDraft(languages[chosen].patterns, patternsInAll() >= MOST_PATTERNS);
    }

    public int exception() throws IllegalArgumentException, IllegalStateException {
        if (!draft.readException(telling)) {
            throw new IllegalArgumentException("the telling is no exception");
        }
        return keepDraft(languages[chosen].exceptions, exceptionsInAll() >= MOST_EXCEPTIONS);
    }

    public int forget() {
        Language language = languages[chosen];
        int gone = language.patterns.size() + language.exceptions.size();
        language.patterns.clear();
        language.exceptions.clear();
        return gone;
    }

    public int add(int a, int b, int c, int d, int e) throws IllegalArgumentException, IllegalStateException {
        return text.append(a, b, c, d, e);
    }

    public int clear() {
        return text.empty();
    }

    public int value(int place) throws IndexOutOfBoundsException {
        if (place < 0 || place > text.size) {
            throw new IndexOutOfBoundsException("there is no such place");
        }
        if (!isWithinWord(place)) {
            return 0;
        }
        readWord(wordStart(place));
        return reading.weightAt(place);
    }

    public boolean breaks(int place) throws IndexOutOfBoundsException {
        if (place < 0 || place > text.size) {
            throw new IndexOutOfBoundsException("there is no such place");
        }
        if (!isWithinWord(place)) {
            return false;
        }
        readWord(wordStart(place));
        return reading.canBreakAt(place, languages[chosen]);
    }

    public int word(int k, boolean end) {
        int seen = 0;
        for (int at = 0; at < text.size; at++) {
            if (startsWord(at)) {
                if (seen == k) {
                    return end ? wordEnd(at) : at;
                }
                seen++;
            }
        }
        return NONE;
    }

    public int count(int what) {
        switch (what) {
            case 0:
                return countWords();
            case 1:
                return countBreaks();
            case 2:
                return countMatches();
            case 3:
                return languages[chosen].patterns.size();
            case 4:
                return languages[chosen].exceptions.size();
            default:
                return NONE;
        }
    }

    private static boolean isCharacter(int number) {
        return number >= FIRST_CHARACTER && number <= LAST_CHARACTER;
    }

    private int patternsInAll() {
        int all = 0;
        for (int i = 0; i < LANGUAGES; i++) {
            all += languages[i].patterns.size();
        }
        return all;
    }

    private int exceptionsInAll() {
        int all = 0;
        for (int i = 0; i < LANGUAGES; i++) {
            all += languages[i].exceptions.size();
        }
        return all;
    }

    private int keepDraft(ArrayList<Rule> rules, boolean full) {
        int same = indexOfRule(rules, draft.spelling, 0, draft.size);
        if (same == NONE && full) {
            throw new IllegalStateException("there is no room for one more");
        }
        if (same == NONE) {
            rules.add(draft.toRule());
        } else {
            rules.set(same, draft.toRule());
        }
        telling.empty();
        return draft.size;
    }

    private static int indexOfRule(ArrayList<Rule> rules, int[] row, int from, int length) {
        for (int i = 0; i < rules.size(); i++) {
            Rule rule = rules.get(i);
            if (rule.spelling.length == length && rule.standsAt(row, from)) {
                return i;
            }
        }
        return NONE;
    }

    private boolean isLetterAt(int at) {
        return at >= 0 && at < text.size && languages[chosen].letterOf(text.numbers[at]) != NO_LETTER;
    }

    private boolean startsWord(int at) {
        return isLetterAt(at) && !isLetterAt(at - 1);
    }

    private boolean isWithinWord(int place) {
        return isLetterAt(place - 1) && isLetterAt(place);
    }

    private int wordStart(int place) {
        int at = place;
        while (at > 0 && isLetterAt(at - 1)) {
            at--;
        }
        return at;
    }

    private int wordEnd(int place) {
        int at = place;
        while (at < text.size && isLetterAt(at)) {
            at++;
        }
        return at;
    }

    private void readWord(int start) {
        reading.spell(text.numbers, start, wordEnd(start), languages[chosen]);
        reading.weigh(languages[chosen]);
    }

    private int countWords() {
        int words = 0;
        for (int at = 0; at < text.size; at++) {
            if (startsWord(at)) {
                words++;
            }
        }
        return words;
    }

    private int countBreaks() {
        int found = 0;
        for (int at = 0; at < text.size; at++) {
            if (startsWord(at)) {
                readWord(at);
                found += reading.breakCount(languages[chosen]);
            }
        }
        return found;
    }

    private int countMatches() {
        int found = 0;
        for (int at = 0; at < text.size; at++) {
            if (startsWord(at)) {
                readWord(at);
                found += reading.matches;
            }
        }
        return found;
    }

    /** A row of numbers from a lowest one up to the last character, with a limited size. */
    private static final class Numbers {
        final int[] numbers;
        final int lowest;
        final int[] offered = new int[AT_ONCE];
        int size = 0;

        Numbers(int most, int lowest) {
            this.numbers = new int[most];
            this.lowest = lowest;
        }

        int append(int a, int b, int c, int d, int e) {
            int more = offer(a, b, c, d, e);
            for (int i = 0; i < more; i++) {
                if (offered[i] < lowest || offered[i] > LAST_CHARACTER) {
                    throw new IllegalArgumentException("one of the numbers can't stand here");
                }
            }
            if (more > numbers.length - size) {
                throw new IllegalStateException("there is no room for so many");
            }
            System.arraycopy(offered, 0, numbers, size, more);
            size += more;
            return size;
        }

        private int offer(int a, int b, int c, int d, int e) {
            offered[0] = a;
            offered[1] = b;
            offered[2] = c;
            offered[3] = d;
            offered[4] = e;
            int before = 0;
            while (before < AT_ONCE && offered[before] != END) {
                before++;
            }
            return before;
        }

        int empty() {
            int had = size;
            size = 0;
            return had;
        }
    }

    /** What one language knows: its ranges of letters, least numbers, patterns and exceptions. */
    private static final class Language {
        final int[] firsts = new int[MOST_RANGES];
        final int[] lasts = new int[MOST_RANGES];
        final int[] targets = new int[MOST_RANGES];
        final ArrayList<Rule> patterns = new ArrayList<>();
        final ArrayList<Rule> exceptions = new ArrayList<>();
        int ranges = 0;
        int left = 2;
        int right = 3;

        void addRange(int first, int last, int to) {
            if (ranges < MOST_RANGES) {
                firsts[ranges] = first;
                lasts[ranges] = last;
                targets[ranges] = to;
                ranges++;
            }
        }

        int letterOf(int character) {
            // Backwards, as the range told last wins.
            for (int i = ranges - 1; i >= 0; i--) {
                if (character >= firsts[i] && character <= lasts[i]) {
                    return targets[i] == 0 ? NO_LETTER : targets[i] + (character - firsts[i]);
                }
            }
            return NO_LETTER;
        }
    }

    /** A pattern or an exception: its letters, and a value for each place before, between and behind them. */
    private static final class Rule {
        final int[] spelling;
        final int[] values;

        Rule(int[] spelling, int[] values) {
            this.spelling = spelling;
            this.values = values;
        }

        boolean standsAt(int[] row, int from) {
            if (from < 0 || spelling.length > row.length - from) {
                return false;
            }
            for (int i = 0; i < spelling.length; i++) {
                if (row[from + i] != spelling[i]) {
                    return false;
                }
            }
            return true;
        }
    }

    /** The telling, read as a rule that is not kept yet; its rows serve every reading. */
    private static final class Draft {
        final int[] spelling = new int[MOST_TOLD];
        final int[] values = new int[MOST_TOLD + 1];
        int size = 0;

        boolean readPattern(Numbers telling) {
            start();
            for (int i = 0; i < telling.size; i++) {
                int number = telling.numbers[i];
                boolean fits = number >= EDGE ? takeLetter(number) : number != HYPHEN && takeValue(-number);
                if (!fits) {
                    return false;
                }
            }
            return size <= MOST_PATTERN_LETTERS && hasLetter() && !hasEdgeWithin();
        }

        boolean readException(Numbers telling) {
            start();
            for (int i = 0; i < telling.size; i++) {
                int number = telling.numbers[i];
                boolean fits = number > EDGE ? takeLetter(number) : number == HYPHEN && takeValue(1);
                if (!fits) {
                    return false;
                }
            }
            return size <= MOST_EXCEPTION_LETTERS && hasLetter();
        }

        Rule toRule() {
            return new Rule(Arrays.copyOf(spelling, size), Arrays.copyOf(values, size + 1));
        }

        private void start() {
            size = 0;
            values[0] = 0;
        }

        private boolean takeLetter(int letter) {
            if (size >= MOST_TOLD) {
                return false;
            }
            spelling[size] = letter;
            size++;
            values[size] = 0;
            return true;
        }

        private boolean takeValue(int told) {
            // No value that is told is 0, so anything else means that this place has one already.
            if (values[size] != 0) {
                return false;
            }
            values[size] = told;
            return true;
        }

        private boolean hasLetter() {
            for (int i = 0; i < size; i++) {
                if (spelling[i] != EDGE) {
                    return true;
                }
            }
            return false;
        }

        private boolean hasEdgeWithin() {
            for (int i = 1; i < size - 1; i++) {
                if (spelling[i] == EDGE) {
                    return true;
                }
            }
            return false;
        }
    }

    /** One word of the text, spelled in letters with EDGE on both sides, and what its places weigh. */
    private static final class Reading {
        final int[] spelled = new int[MOST_TEXT + 2];
        // weights[i] is for the place before spelled[i], so the word's own place p is at p + 1.
        final int[] weights = new int[MOST_TEXT + 3];
        int start = 0;
        int length = 0;
        int matches = 0;

        void spell(int[] characters, int from, int to, Language language) {
            start = from;
            length = to - from;
            spelled[0] = EDGE;
            for (int i = 0; i < length; i++) {
                spelled[i + 1] = language.letterOf(characters[from + i]);
            }
            spelled[length + 1] = EDGE;
        }

        void weigh(Language language) {
            Arrays.fill(weights, 0);
            matches = 0;
            int exception = indexOfRule(language.exceptions, spelled, 1, length);
            if (exception != NONE) {
                lay(language.exceptions.get(exception), 1);
                return;
            }
            for (int i = 0; i < language.patterns.size(); i++) {
                layEverywhere(language.patterns.get(i));
            }
        }

        int weightAt(int place) {
            int within = place - start;
            return within > 0 && within < length ? weights[within + 1] : 0;
        }

        boolean canBreakAt(int place, Language language) {
            int before = place - start;
            return weightAt(place) % 2 == 1 && before >= language.left && length - before >= language.right;
        }

        int breakCount(Language language) {
            int found = 0;
            for (int i = 1; i < length; i++) {
                if (canBreakAt(start + i, language)) {
                    found++;
                }
            }
            return found;
        }

        private void layEverywhere(Rule pattern) {
            int last = length + 2 - pattern.spelling.length;
            for (int at = 0; at <= last; at++) {
                if (pattern.standsAt(spelled, at)) {
                    matches++;
                    lay(pattern, at);
                }
            }
        }

        private void lay(Rule rule, int at) {
            for (int i = 0; i < rule.values.length && at + i < weights.length; i++) {
                weights[at + i] = Math.max(weights[at + i], rule.values[i]);
            }
        }
    }
}
