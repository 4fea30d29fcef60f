/** Boundary cases of promises 5 to 8, sentence by sentence: telling, dropping, patterns, exceptions. */
public final class TellingBoundsTest {
    private static final int END = HyphenPatterns.END;
    private static final int LAST = 1114111;
    private static final int MIN = Integer.MIN_VALUE;
    private static final int MAX = Integer.MAX_VALUE;
    private static final int[] CAN_NOT_BE_TOLD = {-12, -13, -100, MIN, LAST + 1, MAX};
    private static final Check CHECK = new Check();
    private static final Refusal FULL = new Refusal(CHECK, Setup::full);

    public static void main(String[] args) {
        promise5UpToFive();
        promise5UpToEnd();
        promise5BehindEnd();
        promise5CanBeTold();
        promise5CanNotBeTold();
        promise5MoreThanForty();
        promise5TheFirstOneWins();
        promise6HowManyItHad();
        promise6NothingElse();
        promise7EmptyThen();
        promise7OfTheLanguageChosen();
        promise7InPlaceOf();
        promise7OtherLetters();
        promise7HowManyLetters();
        promise7ValueOfEachPlace();
        promise7LetterIsMissing();
        promise7TooMany();
        promise7EdgeWithin();
        promise7TwoValues();
        promise7Hyphen();
        promise7ThreeHundred();
        promise8EmptyThen();
        promise8OfTheLanguageChosen();
        promise8InPlaceOf();
        promise8HowManyLetters();
        promise8OneLetterAtLeast();
        promise8UpToFortyLetters();
        promise8OneHyphenInAPlace();
        promise8NoEdgeNoValue();
        promise8Forty();
        promise8FortyInAllLanguages();
        promise8TheFirstOneWins();
        CHECK.end();
    }

    /** Promise 5: "Up to five numbers more in the TELLING .. how many it has". */
    private static void promise5UpToFive() {
        CHECK.about("5", "Up to five numbers more in the TELLING: how many it has");
        for (int had = 0; had <= 5; had++) {
            for (int more = 0; more <= 5; more++) {
                HyphenPatterns x = new HyphenPatterns();
                CHECK.same(had + " at first", Setup.tellFive(x, Setup.times(had, 'a')), had);
                CHECK.same(more + " more", Setup.tellFive(x, Setup.times(more, 'a')), had + more);
                CHECK.same("it has them", x.drop(), had + more);
            }
        }
    }

    /** Promise 5: "up to the first that is END". */
    private static void promise5UpToEnd() {
        CHECK.about("5", "up to the first that is END");
        String word = "abcde";
        for (int at = 0; at <= 5; at++) {
            int[] five = Setup.times(5, 'x');
            for (int i = 0; i < 5; i++) {
                five[i] = i == at ? END : word.charAt(i);
            }
            HyphenPatterns x = Setup.withText(word);
            CHECK.same("END at " + at, Setup.tellFive(x, five), at);
            CHECK.same("and a mark", x.tell('f', END, 'f', 'f', 'f'), at + 1);
            x.pattern();
            x.clear();
            Setup.add(x, word.substring(0, at) + "f");
            CHECK.same("those before END " + at, x.count(2), 1);
        }
        CHECK.same("END five times", new HyphenPatterns().tell(END, END, END, END, END), 0);
    }

    /** Promise 5: only numbers "before that" are looked at. */
    private static void promise5BehindEnd() {
        CHECK.about("5", "one before that");
        for (int wrong : CAN_NOT_BE_TOLD) {
            HyphenPatterns x = new HyphenPatterns();
            CHECK.same("END, " + wrong, x.tell(END, wrong, wrong, wrong, wrong), 0);
            CHECK.same("four, END " + wrong, x.tell(1, END, wrong, 1, wrong), 1);
            CHECK.same("END, " + wrong + " in the fifth", x.tell(1, 1, 1, END, wrong), 4);
        }
    }

    /** Promise 5 and Terms: "a letter 1 .. 1114111, EDGE 0, a VALUE v from 1 to 9 as -v, HYPHEN -10". */
    private static void promise5CanBeTold() {
        CHECK.about("5", "a letter 1 .. 1114111, EDGE 0, a VALUE v from 1 to 9 as -v, HYPHEN -10");
        int[] fine = {-10, -9, -8, -2, -1, 0, 1, 2, 'a', LAST - 1, LAST};
        for (int number : fine) {
            for (int at = 0; at < 5; at++) {
                int[] five = Setup.times(5, 'a');
                five[at] = number;
                CHECK.same(number + " at " + at, Setup.tellFive(new HyphenPatterns(), five), 5);
            }
        }
    }

    /** Promise 5: "IllegalArgument: one before that is none that can be told." */
    private static void promise5CanNotBeTold() {
        CHECK.about("5", "IllegalArgument: one before that is none that can be told");
        for (int wrong : CAN_NOT_BE_TOLD) {
            for (int at = 0; at < 5; at++) {
                int[] five = Setup.times(5, 'a');
                five[at] = wrong;
                FULL.argument(wrong + " at " + at, x -> Setup.tellFive(x, five));
                int[] ended = Setup.times(at + 1, 'a');
                ended[at] = wrong;
                FULL.argument(wrong + " before END at " + at, x -> Setup.tellFive(x, ended));
            }
        }
    }

    /** Promise 5: "IllegalState: there would be more than 40." */
    private static void promise5MoreThanForty() {
        CHECK.about("5", "IllegalState: there would be more than 40");
        for (int more = 1; more <= 5; more++) {
            int[] five = Setup.times(more, 'z');
            HyphenPatterns x = withWordTold(40 - more);
            CHECK.same(more + " up to 40", Setup.tellFive(x, five), 40);
            CHECK.same("the last one is told", x.exception(), 40);
            for (int had = 41 - more; had <= 40; had++) {
                int letters = had;
                Refusal refusal = new Refusal(CHECK, () -> withWordTold(letters));
                refusal.state(had + " and " + more, y -> Setup.tellFive(y, five));
                CHECK.same(had + " and none", withWordTold(had).tell(END, 'a', 'a', 'a', -12), had);
            }
        }
    }

    /** The telling is a word of the text, so that it shows as an exception whether each letter is as it was told. */
    private static HyphenPatterns withWordTold(int letters) {
        String word = "abc".repeat(14).substring(0, letters);
        HyphenPatterns x = Setup.withText(word);
        Setup.pattern(x, "a3b");
        Setup.tell(x, word);
        return x;
    }

    /** Promise 5 and Terms: "where it lists more than one exception, the first one wins". */
    private static void promise5TheFirstOneWins() {
        CHECK.about("5", "where it lists more than one exception, the first one wins");
        for (int had = 36; had <= 40; had++) {
            int letters = had;
            Refusal refusal = new Refusal(CHECK, () -> withWordTold(letters));
            refusal.argument(had + " and the fifth wrong", x -> x.tell('z', 'z', 'z', 'z', -12));
            refusal.argument(had + " and the first wrong", x -> x.tell(LAST + 1, 'z', 'z', 'z', 'z'));
        }
        Refusal refusal = new Refusal(CHECK, () -> withWordTold(40));
        refusal.argument("40 and one wrong", x -> x.tell(-12, END, 'z', 'z', 'z'));
        refusal.state("40, one right, one wrong behind END", x -> x.tell('z', END, -12, 'z', 'z'));
    }

    /** Promise 6: "The TELLING is empty; how many numbers it had." */
    private static void promise6HowManyItHad() {
        CHECK.about("6", "The TELLING is empty; how many numbers it had");
        for (int had : new int[] {0, 1, 5, 39, 40}) {
            HyphenPatterns x = Setup.withTelling("a".repeat(had));
            CHECK.same(had + " numbers", x.drop(), had);
            CHECK.same("empty", x.tell(END, 0, 0, 0, 0), 0);
            CHECK.same("empty again", x.drop(), 0);
            CHECK.argument("no pattern", x::pattern);
            CHECK.argument("no exception", x::exception);
            Setup.tell(x, "b".repeat(40));
            CHECK.same("40 have room again", x.exception(), 40);
        }
    }

    /** Promise 6: only the telling is empty. */
    private static void promise6NothingElse() {
        CHECK.about("6", "The TELLING is empty");
        HyphenPatterns x = Setup.full();
        CHECK.same("three", x.drop(), 3);
        Setup.tell(x, "b3a");
        CHECK.same("all else is as it was", Probe.of(x), Probe.of(Setup.full()));
    }

    /** Promise 7: "The TELLING, which is empty then". */
    private static void promise7EmptyThen() {
        CHECK.about("7", "The TELLING, which is empty then");
        HyphenPatterns x = Setup.withTelling("1a1a1a1a1a1a1a1a1a1a1a1a1a1a1a1a1");
        CHECK.same("16 letters with all values", x.pattern(), 16);
        CHECK.same("empty", x.drop(), 0);
        CHECK.argument("no pattern", x::pattern);
        Setup.tell(x, "b".repeat(40));
        CHECK.same("40 have room", x.drop(), 40);
    }

    /** Promise 7: "becomes a PATTERN of the language chosen". */
    private static void promise7OfTheLanguageChosen() {
        CHECK.about("7", "becomes a PATTERN of the language chosen");
        for (int chosen = 0; chosen < 4; chosen++) {
            HyphenPatterns x = new HyphenPatterns();
            Setup.add(x, "ab");
            Setup.tell(x, "a9b");
            x.choose(chosen);
            x.pattern();
            for (int language = 0; language < 4; language++) {
                x.choose(language);
                x.letters('a', 'b', 'a');
                CHECK.same(chosen + " in " + language, x.count(3), language == chosen ? 1 : 0);
                CHECK.same(chosen + " in " + language + ", value", x.value(1), language == chosen ? 9 : 0);
            }
        }
    }

    /** Promise 7: "in place of the one with the same letters". */
    private static void promise7InPlaceOf() {
        CHECK.about("7", "in place of the one with the same letters");
        String[] rows = {"a", ".a", "a.", ".a.", "ab", ".abc.", "a".repeat(16), "." + "a".repeat(14) + "."};
        for (String row : rows) {
            HyphenPatterns x = Setup.withText("aabc");
            Setup.pattern(x, "b2c");
            Setup.pattern(x, row + "9");
            Setup.pattern(x, "7a1");
            CHECK.same(row + " again", Setup.pattern(x, row), row.length());
            CHECK.same(row + " is one", x.count(3), row.equals("a") ? 2 : 3);
        }
        HyphenPatterns x = Setup.withText("ab");
        Setup.pattern(x, "a9b");
        Setup.pattern(x, "a4b");
        CHECK.same("a smaller value", x.value(1), 4);
        Setup.pattern(x, "1ab1");
        CHECK.same("no value", x.value(1), 0);
        Setup.pattern(x, "a5b");
        CHECK.same("a value again", x.value(1), 5);
        CHECK.same("all the time one", x.count(3), 1);
        x.choose(1);
        Setup.pattern(x, "a8b");
        x.choose(0);
        CHECK.same("not of another language", x.value(1), 5);
    }

    /** Promise 7: patterns whose letters differ, EDGES too, stand side by side. */
    private static void promise7OtherLetters() {
        CHECK.about("7", "the same letters");
        String[] rows = {"ab", ".ab", "ab.", ".ab.", "a", "b", "ba", "abb", "aab", "ac", "bb", "AB",
            "a".repeat(16), "a".repeat(15), "a".repeat(15) + "b", "b" + "a".repeat(15)};
        HyphenPatterns x = new HyphenPatterns();
        for (int i = 0; i < rows.length; i++) {
            Setup.pattern(x, rows[i]);
            CHECK.same(rows[i], x.count(3), i + 1);
        }
        CHECK.same("an exception with the same letters", Setup.exception(x, "ab"), 2);
        CHECK.same("is no pattern", x.count(3), rows.length);
    }

    /** Promise 7: "how many letters it has, EDGES too". */
    private static void promise7HowManyLetters() {
        CHECK.about("7", "how many letters it has, EDGES too");
        HyphenPatterns x = new HyphenPatterns();
        for (int letters = 1; letters <= 16; letters++) {
            CHECK.same("letters", Setup.pattern(x, "a".repeat(letters)), letters);
        }
        for (int letters = 1; letters <= 14; letters++) {
            String row = "a".repeat(letters);
            CHECK.same("EDGE first", Setup.pattern(x, "." + row), letters + 1);
            CHECK.same("EDGE last", Setup.pattern(x, row + "."), letters + 1);
            CHECK.same("both", Setup.pattern(x, "." + row + "."), letters + 2);
        }
        CHECK.same("values do not count", Setup.pattern(x, "1.2a3b4.5"), 4);
    }

    /** Promise 7 and Terms: "with a value before, between and behind them (0 where none is told)". */
    private static void promise7ValueOfEachPlace() {
        CHECK.about("7", "with a value before, between and behind them (0 where none is told)");
        String[][] rows = {{"ab", "000000"}, {"1ab", "010000"}, {"a1b", "001000"}, {"ab1", "000100"},
            {"1a2b3", "012300"}, {"9a9b9", "099900"}, {"1ab9", "010900"}};
        for (String[] row : rows) {
            HyphenPatterns x = Setup.withText("cabcd");
            Setup.pattern(x, row[0]);
            CHECK.same(row[0], Setup.values(x, 5), row[1]);
        }
        for (String[] row : rows) {
            HyphenPatterns x = Setup.withText("cabcd");
            Setup.pattern(x, "9x9x9x9x9x9");
            Setup.tell(x, "9x9x9x9x99");
            CHECK.argument("no pattern", x::pattern);
            x.drop();
            Setup.pattern(x, row[0]);
            CHECK.same(row[0] + " behind a longer one", Setup.values(x, 5), row[1]);
        }
    }

    /** Promise 7: "IllegalArgument: it is none (a letter is missing". */
    private static void promise7LetterIsMissing() {
        CHECK.about("7", "IllegalArgument: a letter is missing");
        refusePatterns("", "1", "9", ".", "1.", ".1", "1.1", "..", ".1.", "1.2.3", "...");
        takePatterns("a", ".a", "a.", ".a.", "1a", "a1", "1.2a3.4");
    }

    /** Promise 7: "IllegalArgument: .. there are too many". */
    private static void promise7TooMany() {
        CHECK.about("7", "IllegalArgument: there are too many");
        String a = "a";
        refusePatterns(a.repeat(17), "." + a.repeat(16), a.repeat(16) + ".", "." + a.repeat(15) + ".", a.repeat(18),
            "1a".repeat(17), "1a".repeat(17) + "1", a.repeat(39), a.repeat(40), "." + a.repeat(38) + ".");
        takePatterns(a.repeat(15), a.repeat(16), "." + a.repeat(15), a.repeat(15) + ".", "." + a.repeat(14) + ".",
            "1a".repeat(16), "1a".repeat(16) + "1", "1." + "1a".repeat(14) + "1.1");
        HyphenPatterns x = Setup.withText(a.repeat(16));
        Setup.pattern(x, a.repeat(15) + "7a");
        CHECK.same("the 16th counts", x.value(15), 7);
        x.add('a', END, 0, 0, 0);
        CHECK.same("at both places", x.value(15) * 10 + x.value(16), 77);
    }

    /** Promise 7: "IllegalArgument: .. EDGE lies within". */
    private static void promise7EdgeWithin() {
        CHECK.about("7", "IllegalArgument: EDGE lies within");
        refusePatterns("a.b", "a.b.", ".a.b", ".a.b.", "..a", "a..", "..a..", ".1.a", "a1.2.3", "a1.2b", "aa.a",
            "a".repeat(14) + ".a", "a." + "a".repeat(14));
        takePatterns(".ab", "ab.", ".ab.", "1.1a", "a1.1");
    }

    /** Promise 7: "IllegalArgument: .. two values follow one another". */
    private static void promise7TwoValues() {
        CHECK.about("7", "IllegalArgument: two values follow one another");
        refusePatterns("12a", "a12b", "a12", "11a", "a11b", "a99", ".12a", "12.a", "a12.", "a.12", "a1b2c34d", "123a");
        takePatterns("1a2b3", "1a1b1", "9.9a9.9");
    }

    /** Promise 7: "IllegalArgument: .. or there is a HYPHEN". */
    private static void promise7Hyphen() {
        CHECK.about("7", "IllegalArgument: there is a HYPHEN");
        refusePatterns("-", "-a", "a-", "a-b", "a-b-c", "a--b", "a1-b", "a-1b", "-.a", "a.-", ".-a", "a".repeat(16) + "-");
        takePatterns("a9b");
    }

    private static void refusePatterns(String... rows) {
        for (String row : rows) {
            Refusal refusal = new Refusal(CHECK, () -> toldAnew(row));
            refusal.argument("'" + row + "'", HyphenPatterns::pattern);
            HyphenPatterns x = toldAnew(row);
            CHECK.argument("'" + row + "'", x::pattern);
            CHECK.same("'" + row + "' is told still", x.drop(), row.length());
        }
    }

    private static void takePatterns(String... rows) {
        for (String row : rows) {
            HyphenPatterns x = toldAnew(row);
            x.forget();
            CHECK.fine("'" + row + "'", x::pattern);
            CHECK.same("'" + row + "' is kept", x.count(3), 1);
        }
    }

    /** A full object in which this row alone is told. */
    private static HyphenPatterns toldAnew(String row) {
        HyphenPatterns x = Setup.full();
        x.drop();
        Setup.tell(x, row);
        return x;
    }

    /**
     * Promise 7: "IllegalState: there are 300 patterns in all languages, and none with these letters." 300 patterns
     * take 600 calls, more than an object is promised to last, so this holds for this program alone.
     */
    private static void promise7ThreeHundred() {
        CHECK.about("7", "IllegalState: there are 300 patterns in all languages, and none with these letters");
        for (int languages = 1; languages <= 4; languages++) {
            HyphenPatterns x = withPatterns(299, languages);
            x.tell(300, -7, END, 0, 0);
            CHECK.same("the 300th", x.pattern(), 1);
            x.tell(301, END, 0, 0, 0);
            CHECK.state("the 301st", x::pattern);
            CHECK.same("is told still", x.tell(END, 0, 0, 0, 0), 1);
            CHECK.same("may be an exception", x.exception(), 1);
            x.tell(300, -8, END, 0, 0);
            CHECK.same("one with these letters", x.pattern(), 1);
            x.tell(-1, END, 0, 0, 0);
            CHECK.argument("the first one wins", x::pattern);
            x.drop();
            x.choose(3);
            x.tell(300, END, 0, 0, 0);
            CHECK.state("one with these letters elsewhere", x::pattern);
            x.drop();
            x.choose(0);
            CHECK.same("patterns of 0, and the exception", x.forget(), 300 / languages + 1);
            x.tell(301, END, 0, 0, 0);
            CHECK.same("room again", x.pattern(), 1);
            int many = languages;
            Refusal refusal = new Refusal(CHECK, () -> withPatternsAndTelling(many));
            refusal.state("the 301st", HyphenPatterns::pattern);
        }
    }

    private static HyphenPatterns withPatternsAndTelling(int languages) {
        HyphenPatterns x = withPatterns(300, languages);
        x.letters(1, 400, 1);
        x.add(301, 300, 301, 300, 296);
        x.tell(301, -3, 300, END, 0);
        return x;
    }

    /** Patterns 1 to 'many', by turns in so many languages; 300 is left for language 0, which is chosen. */
    private static HyphenPatterns withPatterns(int many, int languages) {
        HyphenPatterns x = new HyphenPatterns();
        for (int i = 1; i <= many; i++) {
            x.choose(i % languages);
            x.tell(i, END, 0, 0, 0);
            x.pattern();
        }
        x.choose(0);
        return x;
    }

    /** Promise 8: "The TELLING, which is empty then". */
    private static void promise8EmptyThen() {
        CHECK.about("8", "The TELLING, which is empty then");
        HyphenPatterns x = Setup.withTelling("-" + "a-".repeat(19) + "a");
        CHECK.same("20 letters with 20 hyphens", x.exception(), 20);
        CHECK.same("empty", x.drop(), 0);
        CHECK.argument("no exception", x::exception);
        Setup.tell(x, "b".repeat(40));
        CHECK.same("40 have room", x.drop(), 40);
    }

    /** Promise 8: "becomes an EXCEPTION of the language chosen". */
    private static void promise8OfTheLanguageChosen() {
        CHECK.about("8", "becomes an EXCEPTION of the language chosen");
        for (int chosen = 0; chosen < 4; chosen++) {
            HyphenPatterns x = new HyphenPatterns();
            Setup.add(x, "ab");
            Setup.tell(x, "a-b");
            x.choose(chosen);
            x.exception();
            for (int language = 0; language < 4; language++) {
                x.choose(language);
                x.letters('a', 'b', 'a');
                CHECK.same(chosen + " in " + language, x.count(4), language == chosen ? 1 : 0);
                CHECK.same(chosen + " in " + language + ", value", x.value(1), language == chosen ? 1 : 0);
            }
        }
    }

    /** Promise 8: "in place of the one with the same letters". */
    private static void promise8InPlaceOf() {
        CHECK.about("8", "in place of the one with the same letters");
        HyphenPatterns x = Setup.withText("abc");
        String[][] rows = {{"a-b-c", "0110"}, {"ab-c", "0010"}, {"-abc-", "0000"}, {"a-bc", "0100"}, {"abc", "0000"}};
        for (String[] row : rows) {
            CHECK.same(row[0], Setup.exception(x, row[0]), 3);
            CHECK.same(row[0] + " is one", x.count(4), 1);
            CHECK.same(row[0] + " counts", Setup.values(x, 3), row[1]);
        }
        String[] others = {"ab", "bc", "abcd", "abd", "xbc", "abC", "a".repeat(40), "a".repeat(39), "a".repeat(39) + "b"};
        for (int i = 0; i < others.length; i++) {
            Setup.exception(x, others[i]);
            CHECK.same(others[i] + " is another", x.count(4), i + 2);
        }
        Setup.exception(x, "a".repeat(40));
        CHECK.same("40 letters again", x.count(4), others.length + 1);
        x.choose(1);
        Setup.exception(x, "a-b-c");
        x.choose(0);
        CHECK.same("not of another language", Setup.values(x, 3), "0000");
    }

    /** Promise 8: "how many letters it has". */
    private static void promise8HowManyLetters() {
        CHECK.about("8", "how many letters it has");
        for (int letters = 1; letters <= 40; letters++) {
            CHECK.same("letters", Setup.exception(new HyphenPatterns(), "a".repeat(letters)), letters);
        }
        for (int letters = 1; letters <= 19; letters++) {
            CHECK.same("hyphens do not count", Setup.exception(new HyphenPatterns(), "-" + "a-".repeat(letters)), letters);
        }
    }

    /** Promise 8 and Terms: "IllegalArgument: it is none", "(one at least)". */
    private static void promise8OneLetterAtLeast() {
        CHECK.about("8", "IllegalArgument: it is none; one letter at least");
        refuseExceptions("", "-", "--", "-".repeat(40));
        takeExceptions("a", "-a", "a-", "-a-");
    }

    /** Promise 8 and Terms: "An EXCEPTION are up to 40 letters"; 41 can't be told. */
    private static void promise8UpToFortyLetters() {
        CHECK.about("8", "An EXCEPTION are up to 40 letters");
        String a = "a";
        takeExceptions(a.repeat(16), a.repeat(17), a.repeat(39), a.repeat(40), "-" + a.repeat(39), a.repeat(39) + "-",
            a.repeat(38) + "-a");
        HyphenPatterns x = Setup.withText(a.repeat(40));
        Setup.pattern(x, "a2a");
        Setup.exception(x, a.repeat(40));
        CHECK.same("a word of 40", Setup.values(x, 40), "0".repeat(41));
        x.add('a', END, 0, 0, 0);
        CHECK.same("a word of 41", Setup.values(x, 41), "0" + "2".repeat(40) + "0");
        HyphenPatterns y = Setup.withText(a.repeat(39));
        Setup.exception(y, a.repeat(38) + "-a");
        CHECK.same("a word of 39", Setup.values(y, 39), "0".repeat(38) + "10");
    }

    /** Promise 8 and Terms: "with HYPHENS before, between or behind them, one in a place at most". */
    private static void promise8OneHyphenInAPlace() {
        CHECK.about("8", "HYPHENS before, between or behind them, one in a place at most");
        refuseExceptions("--a", "a--", "a--b", "ab--", "-a--b", "a-b--c", "a-b-c--", "---a", "a".repeat(38) + "--");
        takeExceptions("-ab", "a-b", "ab-", "-a-b-");
        HyphenPatterns x = Setup.withText("abc");
        Setup.exception(x, "-a-b-c-");
        CHECK.same("a hyphen everywhere", Setup.values(x, 3), "0110");
    }

    /** Promise 8 and Terms: an exception has letters and HYPHENS alone, so EDGE or a value makes "it is none". */
    private static void promise8NoEdgeNoValue() {
        CHECK.about("8", "IllegalArgument: it is none");
        refuseExceptions(".", ".a", "a.", ".a.", "a.b", "-.a", "1", "9", "1a", "a1", "a1b", "a9b", "a-1b", "a1-b",
            ".a-b", "a-b.");
        takeExceptions("a-b");
    }

    private static void refuseExceptions(String... rows) {
        for (String row : rows) {
            Refusal refusal = new Refusal(CHECK, () -> toldAnew(row));
            refusal.argument("'" + row + "'", HyphenPatterns::exception);
            HyphenPatterns x = toldAnew(row);
            CHECK.argument("'" + row + "'", x::exception);
            CHECK.same("'" + row + "' is told still", x.drop(), row.length());
        }
    }

    private static void takeExceptions(String... rows) {
        for (String row : rows) {
            HyphenPatterns x = toldAnew(row);
            x.forget();
            CHECK.fine("'" + row + "'", x::exception);
            CHECK.same("'" + row + "' is kept", x.count(4), 1);
        }
    }

    /** Promise 8: "IllegalState: there are 40 exceptions in all languages, and none with these letters." */
    private static void promise8Forty() {
        CHECK.about("8", "IllegalState: there are 40 exceptions in all languages, and none with these letters");
        HyphenPatterns x = withExceptions(39, 1);
        Setup.add(x, "az");
        Setup.tell(x, "a-z");
        CHECK.same("the 40th", x.exception(), 2);
        CHECK.same("the 40th counts", x.value(1), 1);
        CHECK.same("40", x.count(4), 40);
        Setup.tell(x, "az");
        CHECK.same("one with these letters", x.exception(), 2);
        CHECK.same("in its place", x.value(1), 0);
        CHECK.same("40 still", x.count(4), 40);
        Setup.tell(x, "z");
        CHECK.state("the 41st", x::exception);
        CHECK.same("40 after all", x.count(4), 40);
        CHECK.same("may be a pattern", x.pattern(), 1);
        Refusal refusal = new Refusal(CHECK, () -> withExceptionsAndTelling(1, "z-y"));
        refusal.state("the 41st", HyphenPatterns::exception);
    }

    /** Promise 8: "in all languages", by turns in two, three and four. */
    private static void promise8FortyInAllLanguages() {
        CHECK.about("8", "40 exceptions in all languages");
        for (int languages = 2; languages <= 4; languages++) {
            int many = languages;
            for (int language = 0; language < 4; language++) {
                HyphenPatterns x = withExceptions(39, languages);
                x.choose(language);
                Setup.tell(x, "z-");
                CHECK.same("the 40th in " + language, x.exception(), 1);
                Setup.tell(x, "zz");
                CHECK.state("the 41st in " + language, x::exception);
                int chosen = language;
                Refusal refusal = new Refusal(CHECK, () -> choose(withExceptionsAndTelling(many, "zz"), chosen));
                refusal.state("the 41st in " + language, HyphenPatterns::exception);
            }
            Refusal refusal = new Refusal(CHECK, () -> choose(withExceptionsAndTelling(many, "a"), many - 1));
            refusal.state("one with these letters elsewhere", HyphenPatterns::exception);
        }
    }

    private static HyphenPatterns choose(HyphenPatterns x, int language) {
        x.choose(language);
        return x;
    }

    /** Exceptions of one letter, none of which is z, by turns in so many languages; 0 is chosen. */
    private static HyphenPatterns withExceptions(int many, int languages) {
        HyphenPatterns x = new HyphenPatterns();
        for (int language = languages - 1; language >= 0; language--) {
            x.choose(language);
            x.letters('a', 'z', 'a');
            for (int i = language; i < many; i += languages) {
                x.tell(i < 25 ? 'a' + i : 200 + i, END, 0, 0, 0);
                x.exception();
            }
        }
        return x;
    }

    private static HyphenPatterns withExceptionsAndTelling(int languages, String row) {
        HyphenPatterns x = withExceptions(40, languages);
        Setup.add(x, "zzy zy a");
        Setup.tell(x, row);
        return x;
    }

    /** Promise 8 and Terms: "where it lists more than one exception, the first one wins". */
    private static void promise8TheFirstOneWins() {
        CHECK.about("8", "where it lists more than one exception, the first one wins");
        for (String row : new String[] {"", "-", "z--z", ".z", "z1z"}) {
            Refusal refusal = new Refusal(CHECK, () -> withExceptionsAndTelling(2, row));
            refusal.argument("40 and '" + row + "'", HyphenPatterns::exception);
        }
    }
}
