/** Short ways to bring an object into a state. */
final class Setup {
    private Setup() {
    }

    /** Tells a row: letters and digits for values, '.' for EDGE, '-' for HYPHEN. */
    static void tell(HyphenPatterns x, String row) {
        for (int i = 0; i < row.length(); i++) {
            x.tell(number(row.charAt(i)), HyphenPatterns.END, 0, 0, 0);
        }
    }

    static int pattern(HyphenPatterns x, String row) {
        tell(x, row);
        return x.pattern();
    }

    static int exception(HyphenPatterns x, String row) {
        tell(x, row);
        return x.exception();
    }

    static void add(HyphenPatterns x, String text) {
        for (int i = 0; i < text.length(); i++) {
            x.add(text.charAt(i), HyphenPatterns.END, 0, 0, 0);
        }
    }

    /** A new object in which a .. z are letters, with this text. */
    static HyphenPatterns withText(String text) {
        HyphenPatterns x = new HyphenPatterns();
        x.letters('a', 'z', 'a');
        add(x, text);
        return x;
    }

    /** The values of all places, one digit each. */
    static String values(HyphenPatterns x, int characters) {
        StringBuilder all = new StringBuilder();
        for (int p = 0; p <= characters; p++) {
            all.append(x.value(p));
        }
        return all.toString();
    }

    /** Whether a word may be broken, '|' or '.', for all places. */
    static String breaks(HyphenPatterns x, int characters) {
        StringBuilder all = new StringBuilder();
        for (int p = 0; p <= characters; p++) {
            all.append(x.breaks(p) ? '|' : '.');
        }
        return all.toString();
    }

    private static int number(char c) {
        if (c == '.') {
            return HyphenPatterns.EDGE;
        }
        if (c == '-') {
            return HyphenPatterns.HYPHEN;
        }
        return c >= '1' && c <= '9' ? '0' - c : c;
    }
}
