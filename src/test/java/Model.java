import java.util.ArrayList;
import java.util.Arrays;
import java.util.List;
import java.util.Map;
import java.util.TreeMap;

/** The document once more, written as naively as it reads, to compare answers with. */
final class Model {
    /** The answers of calls that throw, far from every answer of a call that does not. */
    static final long ARGUMENT = 1L << 40;
    static final long STATE = ARGUMENT + 1;
    static final long BOUNDS = ARGUMENT + 2;
    private static final int LAST = 1114111;

    private static final class Tongue {
        final List<int[]> ranges = new ArrayList<>();
        final Map<String, List<Integer>> patterns = new TreeMap<>();
        final Map<String, List<Integer>> exceptions = new TreeMap<>();
        int left = 2;
        int right = 3;
    }

    private final Tongue[] tongues = {new Tongue(), new Tongue(), new Tongue(), new Tongue()};
    private int chosen = 0;
    private List<Integer> telling = new ArrayList<>();
    private List<Integer> text = new ArrayList<>();

    long choose(int language) {
        if (language < 0 || language > 3) {
            return BOUNDS;
        }
        int before = chosen;
        chosen = language;
        return before;
    }

    long letters(int first, int last, int to) {
        if (first < 1 || first > LAST || last < 1 || last > LAST || first > last) {
            return ARGUMENT;
        }
        for (long c = first; c <= last; c++) {
            long letter = to + (c - first);
            if (letter < 0 || letter > LAST) {
                return ARGUMENT;
            }
        }
        if (now().ranges.size() == 20) {
            return STATE;
        }
        now().ranges.add(new int[] {first, last, to});
        return 0;
    }

    long least(int left, int right) {
        if (left < 1 || left > 20 || right < 1 || right > 20) {
            return ARGUMENT;
        }
        now().left = left;
        now().right = right;
        return 0;
    }

    long tell(int[] five) {
        return append(telling, five, -10, 40);
    }

    long add(int[] five) {
        return append(text, five, 1, 400);
    }

    private static long append(List<Integer> row, int[] five, int lowest, int most) {
        List<Integer> more = new ArrayList<>();
        for (int number : five) {
            if (number == -11) {
                break;
            }
            if (number < lowest || number > LAST) {
                return ARGUMENT;
            }
            more.add(number);
        }
        if (row.size() + more.size() > most) {
            return STATE;
        }
        row.addAll(more);
        return row.size();
    }

    long drop() {
        int had = telling.size();
        telling = new ArrayList<>();
        return had;
    }

    long clear() {
        int had = text.size();
        text = new ArrayList<>();
        return had;
    }

    long pattern() {
        // One sign a kind, so that the shape of a pattern can be said in one expression.
        String shape = shape();
        List<Integer> letters = toldLetters();
        if (!shape.matches("v?(ev?)?(lv?)+(ev?)?") || letters.size() > 16) {
            return ARGUMENT;
        }
        int all = 0;
        for (Tongue tongue : tongues) {
            all += tongue.patterns.size();
        }
        return keep(now().patterns, letters, all >= 300);
    }

    long exception() {
        if (!shape().matches("h?(lh?){1,40}")) {
            return ARGUMENT;
        }
        int all = 0;
        for (Tongue tongue : tongues) {
            all += tongue.exceptions.size();
        }
        return keep(now().exceptions, toldLetters(), all >= 40);
    }

    private String shape() {
        StringBuilder shape = new StringBuilder();
        for (int number : telling) {
            shape.append(number > 0 ? 'l' : number == 0 ? 'e' : number == -10 ? 'h' : 'v');
        }
        return shape.toString();
    }

    private List<Integer> toldLetters() {
        List<Integer> letters = new ArrayList<>();
        for (int number : telling) {
            if (number >= 0) {
                letters.add(number);
            }
        }
        return letters;
    }

    private long keep(Map<String, List<Integer>> rules, List<Integer> letters, boolean full) {
        if (full && !rules.containsKey(letters.toString())) {
            return STATE;
        }
        rules.put(letters.toString(), telling);
        telling = new ArrayList<>();
        return letters.size();
    }

    long forget() {
        int gone = now().patterns.size() + now().exceptions.size();
        now().patterns.clear();
        now().exceptions.clear();
        return gone;
    }

    long value(int place) {
        if (place < 0 || place > text.size()) {
            return BOUNDS;
        }
        for (int[] word : words()) {
            if (place > word[0] && place < word[1]) {
                return valueIn(word, place);
            }
        }
        return 0;
    }

    long breaks(int place) {
        if (place < 0 || place > text.size()) {
            return BOUNDS;
        }
        for (int[] word : words()) {
            if (place > word[0] && place < word[1]) {
                boolean room = place - word[0] >= now().left && word[1] - place >= now().right;
                return room && valueIn(word, place) % 2 == 1 ? 1 : 0;
            }
        }
        return 0;
    }

    long word(int k, boolean end) {
        List<int[]> words = words();
        return k < 0 || k >= words.size() ? -1 : words.get(k)[end ? 1 : 0];
    }

    long count(int what) {
        switch (what) {
            case 0: return words().size();
            case 1: return countBreaks();
            case 2: return countMatches();
            case 3: return now().patterns.size();
            case 4: return now().exceptions.size();
            default: return -1;
        }
    }

    private long countBreaks() {
        long found = 0;
        for (int place = 0; place <= text.size(); place++) {
            found += breaks(place);
        }
        return found;
    }

    private long countMatches() {
        long found = 0;
        for (int[] word : words()) {
            if (now().exceptions.containsKey(lettersOf(word).toString())) {
                continue;
            }
            List<Integer> row = withEdges(word);
            for (String letters : now().patterns.keySet()) {
                for (int from = 0; from < row.size(); from++) {
                    for (int to = from + 1; to <= row.size() && to <= from + 16; to++) {
                        found += row.subList(from, to).toString().equals(letters) ? 1 : 0;
                    }
                }
            }
        }
        return found;
    }

    private int valueIn(int[] word, int place) {
        List<Integer> exception = now().exceptions.get(lettersOf(word).toString());
        if (exception != null) {
            return valueBefore(exception, place - word[0]) == 0 ? 0 : 1;
        }
        List<Integer> row = withEdges(word);
        int at = place - word[0] + 1;
        int greatest = 0;
        for (int from = 0; from <= at; from++) {
            for (int to = Math.max(from + 1, at); to <= row.size() && to <= from + 16; to++) {
                List<Integer> pattern = now().patterns.get(row.subList(from, to).toString());
                if (pattern != null) {
                    greatest = Math.max(greatest, valueBefore(pattern, at - from));
                }
            }
        }
        return greatest;
    }

    /** What is told behind so many letters and before the next one. */
    private static int valueBefore(List<Integer> told, int letters) {
        int seen = 0;
        for (int number : told) {
            if (number >= 0) {
                seen++;
            } else if (seen == letters) {
                return -number;
            }
        }
        return 0;
    }

    private List<Integer> lettersOf(int[] word) {
        List<Integer> letters = new ArrayList<>();
        for (int at = word[0]; at < word[1]; at++) {
            letters.add(letter(text.get(at)));
        }
        return letters;
    }

    /** Word k with EDGE before and behind it; without letters if there is none such. */
    List<Integer> spelled(int k) {
        List<int[]> words = words();
        return k < words.size() ? withEdges(words.get(k)) : Arrays.asList(0, 0);
    }

    private List<Integer> withEdges(int[] word) {
        List<Integer> row = new ArrayList<>(Arrays.asList(0));
        row.addAll(lettersOf(word));
        row.add(0);
        return row;
    }

    private List<int[]> words() {
        List<int[]> words = new ArrayList<>();
        int start = -1;
        for (int at = 0; at <= text.size(); at++) {
            boolean letter = at < text.size() && letter(text.get(at)) != 0;
            if (letter && start < 0) {
                start = at;
            }
            if (!letter && start >= 0) {
                words.add(new int[] {start, at});
                start = -1;
            }
        }
        return words;
    }

    private int letter(int character) {
        int letter = 0;
        for (int[] range : now().ranges) {
            if (character >= range[0] && character <= range[1]) {
                letter = range[2] == 0 ? 0 : range[2] + character - range[0];
            }
        }
        return letter;
    }

    private Tongue now() {
        return tongues[chosen];
    }
}
