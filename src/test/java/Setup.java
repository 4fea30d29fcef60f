/** Short ways to bring an object into a state. Rows go in five numbers at a time, to stay below 512 calls. */
final class Setup {
    private static final int END = HyphenPatterns.END;

    private Setup() {
    }

    /** Tells a row: letters and digits for values, '.' for EDGE, '-' for HYPHEN. */
    static void tell(HyphenPatterns x, String row) {
        int[] numbers = new int[row.length()];
        for (int i = 0; i < numbers.length; i++) {
            numbers[i] = number(row.charAt(i));
        }
        for (int from = 0; from < numbers.length; from += 5) {
            tellFive(x, five(numbers, from));
        }
    }

    static int pattern(HyphenPatterns x, String row) {
        tell(x, row);
        return x.pattern();
    }

    static int exception(HyphenPatterns x, String row) {
        tell(x, row);
        return x.exception();
    }

    static void add(HyphenPatterns x, String text) {
        int[] numbers = text.chars().toArray();
        for (int from = 0; from < numbers.length; from += 5) {
            addFive(x, five(numbers, from));
        }
    }

    /** A new object in which a .. z are letters, with this text. */
    static HyphenPatterns withText(String text) {
        HyphenPatterns x = new HyphenPatterns();
        x.letters('a', 'z', 'a');
        add(x, text);
        return x;
    }

    /** A new object with this telling. */
    static HyphenPatterns withTelling(String row) {
        HyphenPatterns x = new HyphenPatterns();
        tell(x, row);
        return x;
    }

    /** An object with something of everything: two languages, words, least numbers, a telling that is a pattern. */
    static HyphenPatterns full() {
        HyphenPatterns x = withText("abc cab Ba");
        x.letters('A', 'Z', 'a');
        x.least(1, 2);
        pattern(x, "a1b");
        pattern(x, "2b4c.");
        exception(x, "c-ab");
        x.choose(3);
        x.letters('a', 'b', 'b');
        x.letters('c', 'c', 'a');
        x.least(1, 1);
        pattern(x, "b5c");
        exception(x, "ab-c");
        tell(x, "b3a");
        x.choose(0);
        return x;
    }

    /** The values of all places, one digit each. */
    static String values(HyphenPatterns x, int characters) {
        StringBuilder all = new StringBuilder();
        for (int p = 0; p <= characters; p++) {
            all.append(x.value(p));
        }
        return all.toString();
    }

    /** Whether a word may be broken, '|' or '.', for all places. */
    static String breaks(HyphenPatterns x, int characters) {
        StringBuilder all = new StringBuilder();
        for (int p = 0; p <= characters; p++) {
            all.append(x.breaks(p) ? '|' : '.');
        }
        return all.toString();
    }

    static int tellFive(HyphenPatterns x, int[] five) {
        return x.tell(five[0], five[1], five[2], five[3], five[4]);
    }

    static int addFive(HyphenPatterns x, int[] five) {
        return x.add(five[0], five[1], five[2], five[3], five[4]);
    }

    /** So many times the number, END behind. */
    static int[] times(int many, int number) {
        int[] five = {END, END, END, END, END};
        for (int i = 0; i < many; i++) {
            five[i] = number;
        }
        return five;
    }

    private static int[] five(int[] numbers, int from) {
        int[] five = times(0, END);
        for (int i = 0; i < 5 && from + i < numbers.length; i++) {
            five[i] = numbers[from + i];
        }
        return five;
    }

    private static int number(char c) {
        if (c == '.') {
            return HyphenPatterns.EDGE;
        }
        if (c == '-') {
            return HyphenPatterns.HYPHEN;
        }
        return c >= '1' && c <= '9' ? '0' - c : c;
    }
}
