/** Boundary cases of promises 1 to 4 and 9, sentence by sentence: new objects, languages, letters, least, forget. */
public final class LanguageBoundsTest {
    private static final int END = HyphenPatterns.END;
    private static final int NONE = HyphenPatterns.NONE;
    private static final int LAST = 1114111;
    private static final int MIN = Integer.MIN_VALUE;
    private static final int MAX = Integer.MAX_VALUE;
    private static final Check CHECK = new Check();
    private static final Refusal FULL = new Refusal(CHECK, Setup::full);

    public static void main(String[] args) {
        promise1NoText();
        promise1EmptyTelling();
        promise1NoLetters();
        promise1NoPatternsOrExceptions();
        promise1NothingIsShared();
        promise2WhichWasBefore();
        promise2NoneSuch();
        promise3FirstToLast();
        promise3ToIsZero();
        promise3BoundIsNoCharacter();
        promise3FirstAboveLast();
        promise3LetterAbove();
        promise3NeverBelowZero();
        promise3TwentyRanges();
        promise3TheFirstOneWins();
        promise4OfTheLanguageChosen();
        promise4OneIsNot();
        promise4OneAndTwenty();
        promise9HowManyTheyWere();
        promise9OfTheLanguageChosen();
        promise9MakesRoom();
        promise9NothingElseIsGone();
        CHECK.end();
    }

    /** Promise 1: "No text". */
    private static void promise1NoText() {
        CHECK.about("1", "No text");
        HyphenPatterns x = new HyphenPatterns();
        CHECK.same("value of place 0", x.value(0), 0);
        CHECK.same("breaks at place 0", x.breaks(0), false);
        CHECK.bounds("value of place 1", () -> x.value(1));
        CHECK.bounds("breaks at place 1", () -> x.breaks(1));
        CHECK.same("word 0", x.word(0, false), NONE);
        CHECK.same("word 0, end", x.word(0, true), NONE);
        CHECK.same("clear", x.clear(), 0);
        CHECK.same("size", x.add(END, 0, 0, 0, 0), 0);
    }

    /** Promise 1: "an empty telling". */
    private static void promise1EmptyTelling() {
        CHECK.about("1", "an empty telling");
        HyphenPatterns x = new HyphenPatterns();
        CHECK.same("size", x.tell(END, 0, 0, 0, 0), 0);
        CHECK.argument("no pattern", x::pattern);
        CHECK.argument("no exception", x::exception);
        CHECK.same("drop", x.drop(), 0);
    }

    /** Promise 1: "in all languages no letters". */
    private static void promise1NoLetters() {
        CHECK.about("1", "in all languages no letters");
        HyphenPatterns x = new HyphenPatterns();
        x.add(1, 'a', 'Z', '-', LAST);
        for (int language = 0; language < 4; language++) {
            x.choose(language);
            CHECK.same("words", x.count(0), 0);
            CHECK.same("word 0", x.word(0, false), NONE);
        }
    }

    /** Promise 1: "in all languages no .. patterns, exceptions". */
    private static void promise1NoPatternsOrExceptions() {
        CHECK.about("1", "in all languages no letters, patterns, exceptions");
        HyphenPatterns x = new HyphenPatterns();
        Setup.add(x, "abcdef");
        for (int language = 0; language < 4; language++) {
            x.choose(language);
            x.letters('a', 'z', 'a');
            CHECK.same("breaks", x.count(1), 0);
            CHECK.same("patterns in words", x.count(2), 0);
            CHECK.same("patterns", x.count(3), 0);
            CHECK.same("exceptions", x.count(4), 0);
            CHECK.same("forget", x.forget(), 0);
        }
    }

    /** Promise 1: what one object holds does not show in a new one. */
    private static void promise1NothingIsShared() {
        CHECK.about("1", "A new object");
        String before = Probe.of(new HyphenPatterns());
        Setup.full().choose(3);
        CHECK.same("beside another object", Probe.of(new HyphenPatterns()), before);
    }

    /** Promise 2: "A language is chosen: which was before." */
    private static void promise2WhichWasBefore() {
        CHECK.about("2", "A language is chosen: which was before");
        CHECK.same("at first", new HyphenPatterns().choose(3), 0);
        HyphenPatterns x = new HyphenPatterns();
        for (int from = 0; from <= 3; from++) {
            for (int to = 0; to <= 3; to++) {
                x.choose(from);
                CHECK.same("from " + from + " to " + to, x.choose(to), from);
                CHECK.same("now " + to, x.choose(to), to);
            }
        }
    }

    /** Promise 2: "IndexOutOfBounds: there is none such." */
    private static void promise2NoneSuch() {
        CHECK.about("2", "IndexOutOfBounds: there is none such");
        for (int chosen = 0; chosen <= 3; chosen++) {
            int before = chosen;
            Refusal refusal = new Refusal(CHECK, () -> fullWithChosen(before));
            for (int language : new int[] {-1, 4, 5, -4, MIN, MAX}) {
                refusal.bounds("language " + language, x -> x.choose(language));
            }
        }
    }

    private static HyphenPatterns fullWithChosen(int language) {
        HyphenPatterns x = Setup.full();
        x.choose(language);
        return x;
    }

    /** Promise 3: "characters first to last count as letters to, to + 1 and so on". */
    private static void promise3FirstToLast() {
        CHECK.about("3", "characters first to last count as letters to, to + 1 and so on");
        HyphenPatterns x = new HyphenPatterns();
        Setup.add(x, "bcdef");
        x.letters('c', 'e', 'x');
        CHECK.same("not the one before first", x.word(0, false), 1);
        CHECK.same("not the one behind last", x.word(0, true), 4);
        Setup.pattern(x, ".x7y8z.");
        CHECK.same("to, to + 1, to + 2", Setup.values(x, 5), "007800");
        HyphenPatterns one = new HyphenPatterns();
        Setup.add(one, "abc");
        one.letters('b', 'b', 'y');
        Setup.pattern(one, ".y.");
        CHECK.same("a range of one", one.word(0, false) * 10 + one.word(0, true), 12);
        CHECK.same("a range of one, its letter", one.count(2), 1);
        HyphenPatterns all = new HyphenPatterns();
        all.letters(1, LAST, 1);
        all.add(1, 2, LAST - 1, LAST, END);
        all.tell(1, 2, -4, LAST - 1, LAST);
        all.pattern();
        CHECK.same("a range of all", all.value(2), 4);
    }

    /** Promise 3: "with to = 0 they are none". */
    private static void promise3ToIsZero() {
        CHECK.about("3", "with to = 0 they are none");
        HyphenPatterns x = Setup.withText("abcde");
        x.letters('b', 'd', 0);
        CHECK.same("words", x.count(0), 2);
        CHECK.same("first is none", x.word(0, true), 1);
        CHECK.same("last is none", x.word(1, false), 4);
        x.letters(1, LAST, 0);
        CHECK.same("all are none", x.count(0), 0);
        x.letters('b', 'd', 1);
        x.tell(1, -6, 2, -5, 3);
        x.pattern();
        CHECK.same("with to = 1 they are letters", Setup.values(x, 5), "006500");
    }

    /** Promise 3: "IllegalArgument: a bound is no character". */
    private static void promise3BoundIsNoCharacter() {
        CHECK.about("3", "IllegalArgument: a bound is no character");
        for (int first : new int[] {0, -1, -97, MIN, LAST + 1, MAX}) {
            FULL.argument("first " + first, x -> x.letters(first, 'z', 1));
            FULL.argument("first " + first + ", to 0", x -> x.letters(first, LAST, 0));
            FULL.argument("both " + first, x -> x.letters(first, first, 1));
        }
        for (int last : new int[] {0, -1, MIN, LAST + 1, MAX}) {
            FULL.argument("last " + last, x -> x.letters('a', last, 1));
            FULL.argument("last " + last + ", to 0", x -> x.letters(1, last, 0));
        }
        FULL.argument("0 to 1114112", x -> x.letters(0, LAST + 1, 0));
        FULL.argument("the widest", x -> x.letters(MIN, MAX, 0));
        HyphenPatterns x = new HyphenPatterns();
        x.add(1, 2, LAST - 1, LAST, END);
        CHECK.fine("first 1", () -> x.letters(1, 1, 'a'));
        CHECK.same("first 1 counts", x.word(0, true), 1);
        CHECK.fine("last 1114111", () -> x.letters(LAST, LAST, 'a'));
        CHECK.same("last 1114111 counts", x.word(1, false), 3);
    }

    /** Promise 3: "IllegalArgument: .. first is above last". */
    private static void promise3FirstAboveLast() {
        CHECK.about("3", "IllegalArgument: first is above last");
        FULL.argument("b to a", x -> x.letters('b', 'a', 'a'));
        FULL.argument("b to a, to 0", x -> x.letters('b', 'a', 0));
        FULL.argument("2 to 1", x -> x.letters(2, 1, 1));
        FULL.argument("the top two", x -> x.letters(LAST, LAST - 1, 1));
        FULL.argument("all, turned", x -> x.letters(LAST, 1, 0));
        FULL.argument("all, turned, to the last letter", x -> x.letters(LAST, 1, LAST));
        HyphenPatterns x = new HyphenPatterns();
        Setup.add(x, "ab");
        CHECK.fine("a to a", () -> x.letters('a', 'a', 'a'));
        CHECK.same("a to a counts", x.word(0, true), 1);
        CHECK.fine("a to b", () -> x.letters('a', 'b', 'a'));
        CHECK.same("a to b counts", x.word(0, true), 2);
    }

    /** Promise 3: "IllegalArgument: .. some letter would not be 0 .. 1114111", above. */
    private static void promise3LetterAbove() {
        CHECK.about("3", "IllegalArgument: some letter would not be 0 .. 1114111");
        FULL.argument("one, to 1114112", x -> x.letters('a', 'a', LAST + 1));
        FULL.argument("two, to 1114111", x -> x.letters('a', 'b', LAST));
        FULL.argument("three, to 1114110", x -> x.letters('a', 'c', LAST - 1));
        FULL.argument("all, to 2", x -> x.letters(1, LAST, 2));
        for (int to : new int[] {MAX, MAX - 1, MAX - 24, MAX - 25, MAX - LAST, MAX - LAST + 1, MAX - LAST + 2}) {
            FULL.argument("wrapped around, to " + to, x -> x.letters('a', 'z', to));
            FULL.argument("all, wrapped around, to " + to, x -> x.letters(1, LAST, to));
        }
        HyphenPatterns x = new HyphenPatterns();
        Setup.add(x, "abc");
        x.letters('a', 'b', LAST - 1);
        x.tell(LAST - 1, -3, LAST, END, 0);
        x.pattern();
        CHECK.same("two, to 1114110", Setup.values(x, 3), "0300");
        x.letters('c', 'c', LAST);
        x.tell(LAST, -4, LAST, END, 0);
        x.pattern();
        CHECK.same("one, to 1114111", Setup.values(x, 3), "0340");
        CHECK.fine("all, to 1", () -> x.letters(1, LAST, 1));
        CHECK.same("all, to 1, counts", Setup.values(x, 3), "0000");
    }

    /** Promise 3: "(to is never below 0)". */
    private static void promise3NeverBelowZero() {
        CHECK.about("3", "to is never below 0");
        for (int to : new int[] {-1, -2, -97, -LAST, MIN, MIN + 1}) {
            FULL.argument("to " + to, x -> x.letters('a', 'z', to));
            FULL.argument("one, to " + to, x -> x.letters('a', 'a', to));
            FULL.argument("all, to " + to, x -> x.letters(1, LAST, to));
        }
        HyphenPatterns x = Setup.withText("abc");
        CHECK.fine("to 0", () -> x.letters('b', 'b', 0));
        CHECK.same("to 0 counts", x.count(0), 2);
    }

    /** Promise 3: "IllegalState: the language has 20 ranges." */
    private static void promise3TwentyRanges() {
        CHECK.about("3", "IllegalState: the language has 20 ranges");
        HyphenPatterns x = new HyphenPatterns();
        Setup.add(x, "ab");
        for (int language = 0; language < 4; language++) {
            x.choose(language);
            addRanges(x, 19);
            CHECK.same("19 ranges", x.count(0), 0);
            CHECK.fine("the 20th", () -> x.letters('a', 'a', 'a'));
            CHECK.same("the 20th counts", x.word(0, true), 1);
            CHECK.state("the 21st", () -> x.letters('b', 'b', 'b'));
            CHECK.same("the 21st does not count", x.word(0, true), 1);
        }
        for (int language = 0; language < 4; language++) {
            int chosen = language;
            Refusal refusal = new Refusal(CHECK, () -> withTwentyRanges(chosen));
            refusal.state("one more in " + language, y -> y.letters('a', 'z', 'a'));
            refusal.state("one more that is there in " + language, y -> y.letters(7, 7, 7));
            refusal.state("one more with to = 0 in " + language, y -> y.letters('a', 'c', 0));
            refusal.state("all in " + language, y -> y.letters(1, LAST, 1));
        }
    }

    private static void addRanges(HyphenPatterns x, int many) {
        for (int i = 0; i < many; i++) {
            x.letters(7, 7, i % 2 == 0 ? 7 : 0);
        }
    }

    private static HyphenPatterns withTwentyRanges(int language) {
        HyphenPatterns x = Setup.full();
        x.choose(language);
        addRanges(x, language == 0 || language == 3 ? 18 : 20);
        return x;
    }

    /** Promise 3 and Terms: "where it lists more than one exception, the first one wins". */
    private static void promise3TheFirstOneWins() {
        CHECK.about("3", "where it lists more than one exception, the first one wins");
        Refusal refusal = new Refusal(CHECK, () -> withTwentyRanges(0));
        refusal.argument("a bound and 20 ranges", x -> x.letters(0, 5, 5));
        refusal.argument("the other bound and 20 ranges", x -> x.letters(5, LAST + 1, 0));
        refusal.argument("turned and 20 ranges", x -> x.letters('b', 'a', 'a'));
        refusal.argument("a letter above and 20 ranges", x -> x.letters('a', 'b', LAST));
        refusal.argument("to below 0 and 20 ranges", x -> x.letters('a', 'b', -1));
    }

    /** Promise 4: "LEFT and RIGHT of the language chosen." */
    private static void promise4OfTheLanguageChosen() {
        CHECK.about("4", "LEFT and RIGHT of the language chosen");
        HyphenPatterns x = new HyphenPatterns();
        Setup.add(x, "aaaaaaa");
        for (int language = 0; language < 4; language++) {
            x.choose(language);
            x.letters('a', 'a', 'a');
            Setup.pattern(x, "a1a");
        }
        x.choose(1);
        x.least(1, 5);
        x.choose(2);
        x.least(5, 1);
        String[] due = {"..|||...", ".||.....", ".....||.", "..|||..."};
        for (int language = 0; language < 4; language++) {
            x.choose(language);
            CHECK.same("language " + language, Setup.breaks(x, 7), due[language]);
        }
    }

    /** Promise 4: "IllegalArgument: one is not 1 .. 20." */
    private static void promise4OneIsNot() {
        CHECK.about("4", "IllegalArgument: one is not 1 .. 20");
        Refusal refusal = new Refusal(CHECK, LanguageBoundsTest::withManyBreaks);
        for (int wrong : new int[] {0, -1, 21, 22, MIN, MAX}) {
            refusal.argument("left " + wrong, x -> x.least(wrong, 1));
            refusal.argument("left " + wrong + ", right 20", x -> x.least(wrong, 20));
            refusal.argument("right " + wrong, x -> x.least(3, wrong));
            refusal.argument("right " + wrong + ", left 20", x -> x.least(20, wrong));
            refusal.argument("both " + wrong, x -> x.least(wrong, wrong));
        }
        refusal.argument("0 and 21", x -> x.least(0, 21));
    }

    /** A word in which any other LEFT or RIGHT would show. */
    private static HyphenPatterns withManyBreaks() {
        HyphenPatterns x = Setup.withText("a".repeat(40));
        Setup.pattern(x, "a1a");
        x.least(4, 5);
        return x;
    }

    /** Promise 4: "1 .. 20", the numbers that are allowed. */
    private static void promise4OneAndTwenty() {
        CHECK.about("4", "1 .. 20");
        HyphenPatterns x = Setup.withText("a".repeat(40));
        Setup.pattern(x, "a1a");
        int[][] leasts = {{1, 1, 39}, {1, 20, 20}, {20, 1, 20}, {20, 20, 1}, {2, 1, 38}, {1, 2, 38}, {19, 20, 2}};
        for (int[] least : leasts) {
            x.least(least[0], least[1]);
            CHECK.same("least " + least[0] + ", " + least[1], x.count(1), least[2]);
            CHECK.same("LEFT - 1 before it", x.breaks(least[0] - 1), false);
            CHECK.same("LEFT before it", x.breaks(least[0]), true);
            CHECK.same("RIGHT behind it", x.breaks(40 - least[1]), true);
            CHECK.same("RIGHT - 1 behind it", x.breaks(41 - least[1]), false);
        }
        HyphenPatterns shorter = Setup.withText("a".repeat(39));
        Setup.pattern(shorter, "a1a");
        shorter.least(20, 20);
        CHECK.same("39 letters", shorter.count(1), 0);
    }

    /** Promise 9: "how many they were". */
    private static void promise9HowManyTheyWere() {
        CHECK.about("9", "how many they were");
        HyphenPatterns x = new HyphenPatterns();
        CHECK.same("none", x.forget(), 0);
        Setup.pattern(x, "a");
        CHECK.same("one pattern", x.forget(), 1);
        Setup.exception(x, "a");
        CHECK.same("one exception", x.forget(), 1);
        Setup.pattern(x, "a");
        Setup.exception(x, "a");
        CHECK.same("one of each, with the same letters", x.forget(), 2);
        Setup.pattern(x, "a1");
        Setup.pattern(x, "a2");
        CHECK.same("one in place of another", x.forget(), 1);
        CHECK.same("none again", x.forget(), 0);
    }

    /** Promise 9: "All patterns and exceptions of the language chosen are gone". */
    private static void promise9OfTheLanguageChosen() {
        CHECK.about("9", "All patterns and exceptions of the language chosen are gone");
        for (int gone = 0; gone < 4; gone++) {
            HyphenPatterns x = new HyphenPatterns();
            for (int language = 0; language < 4; language++) {
                x.choose(language);
                Setup.pattern(x, "a1b");
                Setup.exception(x, "ab");
            }
            x.choose(gone);
            CHECK.same("two", x.forget(), 2);
            for (int language = 0; language < 4; language++) {
                x.choose(language);
                CHECK.same("patterns of " + language, x.count(3), language == gone ? 0 : 1);
                CHECK.same("exceptions of " + language, x.count(4), language == gone ? 0 : 1);
            }
        }
    }

    /** Promise 9: those that are gone count no more among the 40 in all languages. */
    private static void promise9MakesRoom() {
        CHECK.about("9", "are gone");
        HyphenPatterns x = new HyphenPatterns();
        for (int i = 0; i < 40; i++) {
            x.choose(i % 2);
            x.tell('a', 'a' + i, END, 0, 0);
            x.exception();
        }
        CHECK.same("20 gone", x.forget(), 20);
        for (int i = 0; i < 20; i++) {
            x.tell('b', 'a' + i, END, 0, 0);
            CHECK.fine("20 new ones", x::exception);
        }
        x.tell('c', END, 0, 0, 0);
        CHECK.state("one more", x::exception);
    }

    /** Promise 9: letters, least numbers, the telling, the text and the language chosen stay. */
    private static void promise9NothingElseIsGone() {
        CHECK.about("9", "All patterns and exceptions .. are gone");
        HyphenPatterns x = Setup.full();
        x.forget();
        CHECK.same("the language chosen", x.choose(0), 0);
        CHECK.same("the text", x.add(END, 0, 0, 0, 0), 10);
        CHECK.same("the letters", x.count(0), 3);
        CHECK.same("the telling", x.pattern(), 2);
        CHECK.same("what is told", Setup.values(x, 10), "00000000030");
        Setup.pattern(x, "c7a1b");
        CHECK.same("LEFT and RIGHT", Setup.breaks(x, 10), ".....|.....");
    }
}
