/** Boundary cases of promises 10 to 15, sentence by sentence: the text, its places, words and counts. */
public final class TextBoundsTest {
    private static final int END = HyphenPatterns.END;
    private static final int NONE = HyphenPatterns.NONE;
    private static final int LAST = 1114111;
    private static final int MIN = Integer.MIN_VALUE;
    private static final int MAX = Integer.MAX_VALUE;
    private static final int[] NO_CHARACTERS = {0, -1, -9, -10, -12, MIN, LAST + 1, MAX};
    private static final Check CHECK = new Check();
    private static final Refusal FULL = new Refusal(CHECK, Setup::full);

    public static void main(String[] args) {
        promise10UpToFive();
        promise10UpToEnd();
        promise10BehindEnd();
        promise10Characters();
        promise10NoCharacter();
        promise10MoreThanFourHundred();
        promise10TheFirstOneWins();
        promise11HowManyItHad();
        promise11NothingElse();
        promise12FirstAndLastPlace();
        promise12NoneSuch();
        promise12NoneSuchInAFullText();
        promise13FirstAndLastPlace();
        promise13NoneSuch();
        promise13NoneSuchInAFullText();
        promise14BeforeAndBehind();
        promise14FromZeroOn();
        promise14NoneSuch();
        promise14MostAndLongest();
        promise15Words();
        promise15Breaks();
        promise15PatternsInWords();
        promise15NotInExceptions();
        promise15PatternsAndExceptions();
        promise15AnotherWhat();
        askingChangesNothing();
        CHECK.end();
    }

    /** Promise 10: "Up to five characters more .. how many the text has". */
    private static void promise10UpToFive() {
        CHECK.about("10", "Up to five characters more: how many the text has");
        for (int had = 0; had <= 5; had++) {
            for (int more = 0; more <= 5; more++) {
                HyphenPatterns x = new HyphenPatterns();
                CHECK.same(had + " at first", Setup.addFive(x, Setup.times(had, 'a')), had);
                CHECK.same(more + " more", Setup.addFive(x, Setup.times(more, 'a')), had + more);
                CHECK.same("it has them", x.clear(), had + more);
            }
        }
    }

    /** Promise 10: "up to the first that is END". */
    private static void promise10UpToEnd() {
        CHECK.about("10", "up to the first that is END");
        for (int at = 0; at <= 5; at++) {
            int[] five = Setup.times(5, 'a');
            if (at < 5) {
                five[at] = END;
            }
            HyphenPatterns x = Setup.withText("b");
            CHECK.same("END at " + at, Setup.addFive(x, five), at + 1);
            CHECK.same("those before it", x.word(0, true), at + 1);
            CHECK.bounds("no more places", () -> x.value(x.word(0, true) + 1));
        }
        CHECK.same("END five times", new HyphenPatterns().add(END, END, END, END, END), 0);
    }

    /** Promise 10: only those "before that" are looked at. */
    private static void promise10BehindEnd() {
        CHECK.about("10", "one before that");
        for (int wrong : NO_CHARACTERS) {
            HyphenPatterns x = new HyphenPatterns();
            CHECK.same("END, " + wrong, x.add(END, wrong, wrong, wrong, wrong), 0);
            CHECK.same("one, END, " + wrong, x.add(1, END, wrong, 1, wrong), 1);
            CHECK.same("END, " + wrong + " in the fifth", x.add(1, 1, 1, END, wrong), 4);
        }
    }

    /** Promise 10 and Terms: "CHARACTERS are 1 .. 1114111." */
    private static void promise10Characters() {
        CHECK.about("10", "CHARACTERS are 1 .. 1114111");
        for (int character : new int[] {1, 2, 'a', LAST - 1, LAST}) {
            for (int at = 0; at < 5; at++) {
                int[] five = Setup.times(5, 'z');
                five[at] = character;
                HyphenPatterns x = new HyphenPatterns();
                x.letters(character, character, 'a');
                CHECK.same(character + " at " + at, Setup.addFive(x, five), 5);
                CHECK.same(character + " at " + at + ", a word", x.word(0, false), at);
            }
        }
    }

    /** Promise 10: "IllegalArgument: one before that is no character." */
    private static void promise10NoCharacter() {
        CHECK.about("10", "IllegalArgument: one before that is no character");
        for (int wrong : NO_CHARACTERS) {
            for (int at = 0; at < 5; at++) {
                int[] five = Setup.times(5, 'a');
                five[at] = wrong;
                FULL.argument(wrong + " at " + at, x -> Setup.addFive(x, five));
                int[] ended = Setup.times(at + 1, 'a');
                ended[at] = wrong;
                FULL.argument(wrong + " before END at " + at, x -> Setup.addFive(x, ended));
            }
        }
    }

    /** Promise 10 and Terms: "IllegalState: there would be more than 400", "The TEXT are at most 400 characters". */
    private static void promise10MoreThanFourHundred() {
        CHECK.about("10", "IllegalState: there would be more than 400");
        for (int more = 1; more <= 5; more++) {
            int[] five = Setup.times(more, 'z');
            HyphenPatterns x = withLongText(400 - more);
            CHECK.same(more + " up to 400", Setup.addFive(x, five), 400);
            CHECK.same("the last one counts", x.word(0, true), 400);
            for (int had = 401 - more; had <= 400; had++) {
                int size = had;
                Refusal refusal = new Refusal(CHECK, () -> withLongText(size));
                refusal.state(had + " and " + more, y -> Setup.addFive(y, five));
                CHECK.same(had + " and none", withLongText(had).add(END, 'a', 'a', 'a', 0), had);
            }
        }
    }

    /** One word in which every letter is in a pattern, so that it shows whether each is as it was added. */
    private static HyphenPatterns withLongText(int size) {
        HyphenPatterns x = Setup.withText("ab".repeat(200).substring(0, size));
        Setup.pattern(x, "a1b");
        Setup.pattern(x, "b2a");
        return x;
    }

    /** Promise 10 and Terms: "where it lists more than one exception, the first one wins". */
    private static void promise10TheFirstOneWins() {
        CHECK.about("10", "where it lists more than one exception, the first one wins");
        for (int had = 396; had <= 400; had++) {
            int size = had;
            Refusal refusal = new Refusal(CHECK, () -> withLongText(size));
            refusal.argument(had + " and the fifth wrong", x -> x.add('z', 'z', 'z', 'z', 0));
            refusal.argument(had + " and the first wrong", x -> x.add(LAST + 1, 'z', 'z', 'z', 'z'));
        }
        Refusal refusal = new Refusal(CHECK, () -> withLongText(400));
        refusal.argument("400 and one wrong", x -> x.add(0, END, 'z', 'z', 'z'));
        refusal.state("400, one right, one wrong behind END", x -> x.add('z', END, 0, 'z', 'z'));
    }

    /** Promise 11: "The text is empty; how many characters it had." */
    private static void promise11HowManyItHad() {
        CHECK.about("11", "The text is empty; how many characters it had");
        for (int had : new int[] {0, 1, 5, 399, 400}) {
            HyphenPatterns x = Setup.withText("a".repeat(had));
            CHECK.same(had + " characters", x.clear(), had);
            CHECK.same("empty", x.add(END, 0, 0, 0, 0), 0);
            CHECK.same("no words", x.count(0), 0);
            CHECK.same("place 0", x.value(0), 0);
            CHECK.bounds("no place 1", () -> x.value(1));
            CHECK.bounds("no break at 1", () -> x.breaks(1));
            CHECK.same("empty again", x.clear(), 0);
            Setup.add(x, "b".repeat(400));
            CHECK.same("400 have room again", x.word(0, true), 400);
        }
    }

    /** Promise 11: only the text is empty. */
    private static void promise11NothingElse() {
        CHECK.about("11", "The text is empty");
        HyphenPatterns x = Setup.full();
        CHECK.same("ten", x.clear(), 10);
        Setup.add(x, "abc cab Ba");
        CHECK.same("all else is as it was", Probe.of(x), Probe.of(Setup.full()));
    }

    /** Promise 12 and Terms: "PLACES are 0 .. n", the first and the last. */
    private static void promise12FirstAndLastPlace() {
        CHECK.about("12", "PLACES are 0 .. n");
        for (int n : new int[] {0, 1, 2, 399, 400}) {
            HyphenPatterns x = Setup.withText("a".repeat(n));
            Setup.pattern(x, "7a7");
            CHECK.same("place 0 of " + n, x.value(0), 0);
            CHECK.same("the last place of " + n, x.value(n), 0);
            if (n > 1) {
                CHECK.same("place 1 of " + n, x.value(1), 7);
                CHECK.same("the last but one of " + n, x.value(n - 1), 7);
            }
        }
    }

    /** Promise 12: "IndexOutOfBounds: there is none such." */
    private static void promise12NoneSuch() {
        CHECK.about("12", "IndexOutOfBounds: there is none such");
        for (int place : new int[] {-1, -2, 11, 12, 400, MIN, MAX}) {
            FULL.bounds("place " + place + " of 10 characters", x -> x.value(place));
        }
        Refusal empty = new Refusal(CHECK, HyphenPatterns::new);
        for (int place : new int[] {-1, 1, MIN, MAX}) {
            empty.bounds("place " + place + " of no text", x -> x.value(place));
        }
    }

    /** Promise 12: "IndexOutOfBounds: there is none such", at 400 characters. */
    private static void promise12NoneSuchInAFullText() {
        CHECK.about("12", "IndexOutOfBounds: there is none such");
        Refusal most = new Refusal(CHECK, () -> withLongText(400));
        for (int place : new int[] {-1, 401, 402, 403, MIN, MAX}) {
            most.bounds("place " + place + " of 400 characters", x -> x.value(place));
        }
    }

    /** Promise 13 and Terms: "PLACES are 0 .. n", the first and the last. */
    private static void promise13FirstAndLastPlace() {
        CHECK.about("13", "PLACES are 0 .. n");
        for (int n : new int[] {0, 1, 2, 399, 400}) {
            HyphenPatterns x = Setup.withText("a".repeat(n));
            x.least(1, 1);
            Setup.pattern(x, "7a7");
            CHECK.same("place 0 of " + n, x.breaks(0), false);
            CHECK.same("the last place of " + n, x.breaks(n), false);
            if (n > 1) {
                CHECK.same("place 1 of " + n, x.breaks(1), true);
                CHECK.same("the last but one of " + n, x.breaks(n - 1), true);
            }
        }
    }

    /** Promise 13: "IndexOutOfBounds: there is none such." */
    private static void promise13NoneSuch() {
        CHECK.about("13", "IndexOutOfBounds: there is none such");
        for (int place : new int[] {-1, -2, 11, 12, 400, MIN, MAX}) {
            FULL.bounds("place " + place + " of 10 characters", x -> x.breaks(place));
        }
        Refusal empty = new Refusal(CHECK, HyphenPatterns::new);
        for (int place : new int[] {-1, 1, MIN, MAX}) {
            empty.bounds("place " + place + " of no text", x -> x.breaks(place));
        }
    }

    /** Promise 13: "IndexOutOfBounds: there is none such", at 400 characters. */
    private static void promise13NoneSuchInAFullText() {
        CHECK.about("13", "IndexOutOfBounds: there is none such");
        Refusal most = new Refusal(CHECK, () -> withLongText(400));
        for (int place : new int[] {-1, 401, 402, 403, MIN, MAX}) {
            most.bounds("place " + place + " of 400 characters", x -> x.breaks(place));
        }
    }

    /** Promise 14: "the place before it, or (end) behind it". */
    private static void promise14BeforeAndBehind() {
        CHECK.about("14", "the place before it, or (end) behind it");
        String[] texts = {"a", "ab", " a", "a ", " ab ", "   abc   "};
        int[][] due = {{0, 1}, {0, 2}, {1, 2}, {0, 1}, {1, 3}, {3, 6}};
        for (int i = 0; i < texts.length; i++) {
            HyphenPatterns x = Setup.withText(texts[i]);
            CHECK.same("'" + texts[i] + "'", x.word(0, false), due[i][0]);
            CHECK.same("'" + texts[i] + "', end", x.word(0, true), due[i][1]);
            CHECK.same("'" + texts[i] + "', no second", x.word(1, false), NONE);
            CHECK.same("'" + texts[i] + "', no second, end", x.word(1, true), NONE);
        }
    }

    /** Promise 14: "Word k of the text, from 0 on". */
    private static void promise14FromZeroOn() {
        CHECK.about("14", "Word k of the text, from 0 on");
        HyphenPatterns x = Setup.withText("a bc  def");
        int[][] due = {{0, 1}, {2, 4}, {6, 9}, {NONE, NONE}};
        for (int k = 0; k < due.length; k++) {
            CHECK.same("word " + k, x.word(k, false), due[k][0]);
            CHECK.same("word " + k + ", end", x.word(k, true), due[k][1]);
        }
    }

    /** Promise 14: "NONE if there is none such". */
    private static void promise14NoneSuch() {
        CHECK.about("14", "NONE if there is none such");
        HyphenPatterns[] texts = {new HyphenPatterns(), Setup.withText(""), Setup.withText("  - "), Setup.withText("a b")};
        int[] words = {0, 0, 0, 2};
        for (int i = 0; i < texts.length; i++) {
            HyphenPatterns x = texts[i];
            String before = x.count(0) + " words";
            for (int k : new int[] {-1, -2, words[i], words[i] + 1, 400, MIN, MAX}) {
                CHECK.same(before + ", word " + k, x.word(k, false), NONE);
                CHECK.same(before + ", word " + k + ", end", x.word(k, true), NONE);
            }
        }
        HyphenPatterns x = Setup.withText("a b");
        x.choose(1);
        CHECK.same("no letters in this language", x.word(0, false), NONE);
    }

    /** Promise 14 and Terms: at most 400 characters hold 200 words, or one of 400. */
    private static void promise14MostAndLongest() {
        CHECK.about("14", "Word k of the text");
        HyphenPatterns x = Setup.withText("a ".repeat(200));
        CHECK.same("the last of 200", x.word(199, false), 398);
        CHECK.same("the last of 200, end", x.word(199, true), 399);
        CHECK.same("no more than 200", x.word(200, false), NONE);
        HyphenPatterns y = Setup.withText(" a".repeat(200));
        CHECK.same("the last of 200, at the end", y.word(199, true), 400);
        HyphenPatterns z = Setup.withText("a".repeat(400));
        CHECK.same("one of 400", z.word(0, false), 0);
        CHECK.same("one of 400, end", z.word(0, true), 400);
        CHECK.same("no other", z.word(1, false), NONE);
    }

    /** Promise 15: "what = 0 words". */
    private static void promise15Words() {
        CHECK.about("15", "what = 0 words");
        String[] texts = {"", " ", "a", " a ", "a b", "a".repeat(400), "a ".repeat(200), "  ".repeat(200)};
        int[] due = {0, 0, 1, 1, 2, 1, 200, 0};
        for (int i = 0; i < texts.length; i++) {
            CHECK.same("'" + texts[i] + "'", Setup.withText(texts[i]).count(0), due[i]);
        }
    }

    /** Promise 15: "1 places where words may be BROKEN". */
    private static void promise15Breaks() {
        CHECK.about("15", "1 places where words may be BROKEN");
        String[] texts = {"", " ", "a", "aa", "aaaa", "aaaaa", "aaaaa aaaaaa", "a".repeat(400), "aaaa ".repeat(80)};
        int[] due = {0, 0, 0, 0, 0, 1, 3, 396, 0};
        int[] dueByOne = {0, 0, 0, 1, 3, 4, 9, 399, 240};
        for (int i = 0; i < texts.length; i++) {
            HyphenPatterns x = Setup.withText(texts[i]);
            CHECK.same("'" + texts[i] + "', no patterns", x.count(1), 0);
            Setup.pattern(x, "9a9");
            CHECK.same("'" + texts[i] + "'", x.count(1), due[i]);
            x.least(1, 1);
            CHECK.same("'" + texts[i] + "', least 1 and 1", x.count(1), dueByOne[i]);
        }
    }

    /** Promise 15: "2 how often patterns are in those words of the text". */
    private static void promise15PatternsInWords() {
        CHECK.about("15", "2 how often patterns are in those words of the text");
        String[] rows = {"a", ".a", "a.", ".a.", "aa", ".aa.", "aaa", "aaaa", ".aaa.", "aab", "ba"};
        int[] due = {6, 3, 3, 1, 3, 1, 1, 0, 1, 0, 0};
        HyphenPatterns all = Setup.withText("a aa aaa");
        int sum = 0;
        for (int i = 0; i < rows.length; i++) {
            HyphenPatterns x = Setup.withText("a aa aaa");
            Setup.pattern(x, rows[i]);
            CHECK.same(rows[i], x.count(2), due[i]);
            Setup.pattern(all, rows[i]);
            sum += due[i];
            CHECK.same("all to " + rows[i], all.count(2), sum);
        }
        HyphenPatterns most = Setup.withText("a".repeat(400));
        Setup.pattern(most, "a");
        CHECK.same("one letter in 400", most.count(2), 400);
        Setup.pattern(most, "a".repeat(16));
        CHECK.same("16 letters in 400", most.count(2), 400 + 385);
    }

    /** Promise 15: "that are no EXCEPTIONS". */
    private static void promise15NotInExceptions() {
        CHECK.about("15", "2 how often patterns are in those words of the text that are no EXCEPTIONS");
        HyphenPatterns x = Setup.withText("a aa aaa aa");
        Setup.pattern(x, "a");
        CHECK.same("no exception", x.count(2), 8);
        Setup.exception(x, "aa");
        CHECK.same("two words are one", x.count(2), 4);
        Setup.exception(x, "a");
        Setup.exception(x, "aaa");
        CHECK.same("all words are some", x.count(2), 0);
        x.choose(1);
        x.letters('a', 'a', 'a');
        Setup.pattern(x, "a");
        CHECK.same("not of another language", x.count(2), 8);
    }

    /** Promise 15: "3 patterns, 4 exceptions of the language chosen". */
    private static void promise15PatternsAndExceptions() {
        CHECK.about("15", "3 patterns, 4 exceptions of the language chosen");
        HyphenPatterns x = new HyphenPatterns();
        x.choose(2);
        for (int i = 0; i <= 40; i++) {
            CHECK.same("patterns", x.count(3), i);
            CHECK.same("exceptions", x.count(4), i);
            x.tell('a' + i, END, 0, 0, 0);
            x.pattern();
            x.tell('a' + i, END, 0, 0, 0);
            CHECK.same("one more, up to 40", Check.thrownBy(x::exception).equals(Check.NOTHING), i < 40);
        }
        CHECK.same("41 patterns", x.count(3), 41);
        CHECK.same("40 exceptions", x.count(4), 40);
        x.choose(1);
        CHECK.same("patterns of another", x.count(3), 0);
        CHECK.same("exceptions of another", x.count(4), 0);
    }

    /** Promise 15: "NONE for another what". */
    private static void promise15AnotherWhat() {
        CHECK.about("15", "NONE for another what");
        HyphenPatterns x = Setup.full();
        // Only c-ab may be broken; a1b and 2b4c. are in abc alone.
        int[] due = {3, 1, 2, 2, 1};
        for (int what = 0; what <= 4; what++) {
            CHECK.same("what = " + what, x.count(what), due[what]);
        }
        for (int what : new int[] {-1, -2, 5, 6, 256, 65536, MIN, MIN + 1, MIN + 4, MAX}) {
            CHECK.same("what = " + what, x.count(what), NONE);
            CHECK.same("what = " + what + " in a new object", new HyphenPatterns().count(what), NONE);
        }
    }

    /** Promises 12 to 15 tell answers alone: an object that was asked answers later calls like one that was not. */
    private static void askingChangesNothing() {
        CHECK.about("Not promised", "Nothing is promised beyond the answers and state changes described above");
        for (int language = 0; language <= 3; language++) {
            HyphenPatterns asked = Setup.full();
            HyphenPatterns spared = Setup.full();
            asked.choose(language);
            spared.choose(language);
            String first = allAnswers(asked);
            CHECK.same("asked again in language " + language, allAnswers(asked), first);
            CHECK.same("after questions in language " + language, Probe.of(asked), Probe.of(spared));
        }
    }

    private static String allAnswers(HyphenPatterns x) {
        StringBuilder all = new StringBuilder(Setup.values(x, 10)).append(Setup.breaks(x, 10));
        for (int n = -1; n <= 5; n++) {
            all.append(' ').append(x.word(n, false)).append(' ').append(x.word(n, true)).append(' ').append(x.count(n));
        }
        return all.toString();
    }
}
