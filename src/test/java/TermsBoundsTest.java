/** Boundary cases of the document's Terms, sentence by sentence, as far as no promise names them itself. */
public final class TermsBoundsTest {
    private static final int END = HyphenPatterns.END;
    private static final int EDGE = HyphenPatterns.EDGE;
    private static final int HYPHEN = HyphenPatterns.HYPHEN;
    private static final int NONE = HyphenPatterns.NONE;
    private static final int LAST = 1114111;
    private static final Check CHECK = new Check();

    public static void main(String[] args) {
        toldLastSays();
        withoutAnyItIsNone();
        languagesHaveTheirOwn();
        leastAtFirst();
        lettersThatCanBeTold();
        valuesThatCanBeTold();
        hyphenIsNoValue();
        endIsNotTold();
        firstLastOrBothEdge();
        placeBeforeCharacter();
        longestRow();
        lettersOfTheLanguageChosen();
        letterByLetterAnException();
        withinAnException();
        exceptionsInsteadOfPatterns();
        edgeBeforeAndBehind();
        asLongAsTheWord();
        notAcrossWords();
        beforeBetweenAndBehind();
        theGreatestCounts();
        otherPlaces();
        oddValues();
        atLeastLeftAndRight();
        atMost512Calls();
        CHECK.end();
    }

    /** Terms: "of the ranges that hold a character the one told last says which letter, or that it is none". */
    private static void toldLastSays() {
        CHECK.about("Terms", "of the ranges that hold a character the one told last says which letter, or that it is none");
        HyphenPatterns x = Setup.withText("abcde");
        Setup.pattern(x, "x9y");
        Setup.pattern(x, "b8c");
        CHECK.same("one range", Setup.values(x, 5), "008000");
        x.letters('c', 'd', 'x');
        CHECK.same("its first and last character", Setup.values(x, 5), "000900");
        x.letters('b', 'b', 0);
        CHECK.same("none, beside the others", x.word(0, true) * 10 + x.word(1, false), 12);
        x.letters('b', 'c', 'b');
        CHECK.same("letters again", Setup.values(x, 5), "008000");
        x.letters('a', 'z', 0);
        CHECK.same("all are none", x.count(0), 0);
        x.letters('d', 'e', 'x');
        CHECK.same("two are letters", Setup.values(x, 5), "000090");
        x.letters('d', 'e', 'x');
        CHECK.same("the same range again", Setup.values(x, 5), "000090");
        for (int i = 7; i < 20; i++) {
            x.letters(7, 7, 7);
        }
        CHECK.same("ranges that do not hold it", Setup.values(x, 5), "000090");
    }

    /** Terms: "without any it is none". */
    private static void withoutAnyItIsNone() {
        CHECK.about("Terms", "without any it is none");
        HyphenPatterns x = new HyphenPatterns();
        x.add(1, 'm', 'n', 'o', LAST);
        CHECK.same("no range", x.count(0), 0);
        x.letters('n', 'n', 'n');
        CHECK.same("one range: before", x.word(0, false), 2);
        CHECK.same("one range: behind", x.word(0, true), 3);
        x.letters(2, 'l', 2);
        x.letters('p', LAST - 1, 'p');
        CHECK.same("ranges up to the character", x.count(0), 1);
        x.letters(1, 1, 1);
        x.letters(LAST, LAST, LAST);
        CHECK.same("the first and the last character", x.count(0), 3);
    }

    /** Terms: "In a LANGUAGE, 0 .. 3, one of which is chosen (0 at first)". */
    private static void languagesHaveTheirOwn() {
        CHECK.about("Terms", "In a LANGUAGE, 0 .. 3, one of which is chosen (0 at first)");
        HyphenPatterns x = new HyphenPatterns();
        Setup.add(x, "abcd");
        x.letters('a', 'a', 'a');
        for (int language = 1; language <= 3; language++) {
            CHECK.same("chosen before", x.choose(language), language - 1);
            x.letters('a', 'a' + language, 'a');
        }
        for (int language = 0; language <= 3; language++) {
            x.choose(language);
            CHECK.same("letters of " + language, x.word(0, true), language + 1);
        }
    }

    /** Terms: "LEFT and RIGHT are 2 and 3 at first." */
    private static void leastAtFirst() {
        CHECK.about("Terms", "LEFT and RIGHT are 2 and 3 at first");
        for (int language = 0; language <= 3; language++) {
            HyphenPatterns x = new HyphenPatterns();
            x.choose(language);
            x.letters('a', 'a', 'a');
            Setup.pattern(x, "a1a");
            Setup.add(x, "aaaa");
            CHECK.same("four letters", Setup.breaks(x, 4), ".....");
            Setup.add(x, "a");
            CHECK.same("five letters", Setup.breaks(x, 5), "..|...");
            Setup.add(x, "aa");
            CHECK.same("seven letters", Setup.breaks(x, 7), "..|||...");
        }
    }

    /** Terms: "a letter 1 .. 1114111". */
    private static void lettersThatCanBeTold() {
        CHECK.about("Terms", "a letter 1 .. 1114111");
        for (int letter : new int[] {1, 2, LAST - 1, LAST}) {
            HyphenPatterns x = new HyphenPatterns();
            x.letters(1, LAST, 1);
            x.add(letter, 'a', letter, END, 0);
            x.tell(letter, -3, 'a', END, 0);
            CHECK.same(letter + " in a pattern", x.pattern(), 2);
            CHECK.same(letter + " in a pattern counts", Setup.values(x, 3), "0300");
            x.tell(letter, 'a', HYPHEN, letter, END);
            CHECK.same(letter + " in an exception", x.exception(), 3);
            CHECK.same(letter + " in an exception counts", Setup.values(x, 3), "0010");
        }
    }

    /** Terms: "a VALUE v from 1 to 9 as -v". */
    private static void valuesThatCanBeTold() {
        CHECK.about("Terms", "a VALUE v from 1 to 9 as -v");
        for (int v = 1; v <= 9; v++) {
            HyphenPatterns x = Setup.withText("ab");
            CHECK.same("value " + v, x.tell('a', -v, 'b', END, 0), 3);
            CHECK.same("value " + v + " in a pattern", x.pattern(), 2);
            CHECK.same("value " + v + " counts", x.value(1), v);
        }
    }

    /** Terms: "HYPHEN -10", beside the last value -9. */
    private static void hyphenIsNoValue() {
        CHECK.about("Terms", "HYPHEN -10");
        HyphenPatterns x = Setup.withText("ab");
        x.tell('a', -10, 'b', END, 0);
        CHECK.argument("-10 in a pattern", x::pattern);
        CHECK.same("-10 in an exception", x.exception(), 2);
        CHECK.same("-10 counts", x.value(1), 1);
        x.tell('a', -9, 'b', END, 0);
        CHECK.argument("-9 in an exception", x::exception);
        CHECK.same("-9 in a pattern", x.pattern(), 2);
    }

    /** The public face: "END = -11", beside HYPHEN -10 and -12, which can't be told. */
    private static void endIsNotTold() {
        CHECK.about("The public face", "END = -11");
        HyphenPatterns x = new HyphenPatterns();
        CHECK.same("-10", x.tell(-10, END, 0, 0, 0), 1);
        CHECK.same("-11", x.tell(-11, 0, 0, 0, 0), 1);
        CHECK.argument("-12", () -> x.tell(-12, 0, 0, 0, 0));
        CHECK.same("-11 in the text", x.add(-11, 0, 0, 0, 0), 0);
        CHECK.argument("-10 in the text", () -> x.add(-10, 0, 0, 0, 0));
        CHECK.argument("-12 in the text", () -> x.add(-12, 0, 0, 0, 0));
        CHECK.same("told", x.drop(), 1);
        CHECK.same("text", x.clear(), 0);
    }

    /** Terms: "of which the first, the last, or both may be EDGE, but not all". */
    private static void firstLastOrBothEdge() {
        CHECK.about("Terms", "of which the first, the last, or both may be EDGE, but not all");
        HyphenPatterns x = Setup.withText("ab");
        x.tell(EDGE, 'a', -2, 'b', END);
        CHECK.same("the first", x.pattern(), 3);
        CHECK.same("the first counts", x.value(1), 2);
        x.tell('a', -3, 'b', EDGE, END);
        CHECK.same("the last", x.pattern(), 3);
        CHECK.same("the last counts", x.value(1), 3);
        x.tell(EDGE, 'a', -4, 'b', EDGE);
        CHECK.same("both", x.pattern(), 4);
        CHECK.same("both count", x.value(1), 4);
        x.tell(EDGE, END, 0, 0, 0);
        CHECK.argument("one, and all", x::pattern);
        x.tell(EDGE, END, 0, 0, 0);
        CHECK.argument("two, and all", x::pattern);
        x.drop();
        x.tell(EDGE, 'a', EDGE, END, 0);
        CHECK.same("two, and one letter", x.pattern(), 3);
    }

    /** Terms: "place p before character p". */
    private static void placeBeforeCharacter() {
        CHECK.about("Terms", "place p before character p");
        for (int p = 1; p <= 9; p++) {
            HyphenPatterns x = Setup.withText("a".repeat(p) + "b" + "a".repeat(9 - p));
            Setup.pattern(x, "5b");
            CHECK.same("place " + p, Setup.values(x, 10), "0".repeat(p) + "5" + "0".repeat(10 - p));
        }
    }

    /** Terms: "A WORD is a longest row of characters that are letters". */
    private static void longestRow() {
        CHECK.about("Terms", "A WORD is a longest row of characters that are letters");
        HyphenPatterns x = Setup.withText("ab");
        CHECK.same("the whole text", x.word(0, false) * 10 + x.word(0, true), 2);
        Setup.add(x, "c");
        CHECK.same("one letter longer", x.word(0, true), 3);
        Setup.add(x, " ");
        CHECK.same("ended", x.word(0, true), 3);
        CHECK.same("no second one yet", x.word(1, false), NONE);
        Setup.add(x, "d");
        CHECK.same("the second one", x.word(1, false) * 10 + x.word(1, true), 45);
        x.letters('b', 'b', 0);
        CHECK.same("three words", x.count(0), 3);
        x.letters(' ', ' ', 'x');
        x.letters('b', 'b', 'b');
        CHECK.same("one word", x.word(0, true), 5);
    }

    /** Terms: "letters in the language chosen". */
    private static void lettersOfTheLanguageChosen() {
        CHECK.about("Terms", "letters in the language chosen");
        HyphenPatterns x = Setup.withText("ab cd");
        x.choose(3);
        x.letters('b', 'c', 'b');
        x.letters(' ', ' ', 'x');
        CHECK.same("words of 3", x.count(0), 1);
        CHECK.same("before", x.word(0, false), 1);
        CHECK.same("behind", x.word(0, true), 4);
        x.choose(0);
        CHECK.same("words of 0", x.count(0), 2);
        x.choose(2);
        CHECK.same("words of 2", x.count(0), 0);
    }

    /** Terms: "If it is, letter by letter, an EXCEPTION of that language". */
    private static void letterByLetterAnException() {
        CHECK.about("Terms", "If it is, letter by letter, an EXCEPTION of that language");
        String[] words = {"abc", "ab", "bc", "abcd", "xabc", "abd", "xbc", "axc", "cba"};
        for (int i = 0; i < words.length; i++) {
            HyphenPatterns x = Setup.withText(words[i]);
            Setup.exception(x, "a-bc");
            CHECK.same(words[i], x.value(1), i == 0 ? 1 : 0);
        }
        HyphenPatterns one = Setup.withText("a aa");
        Setup.pattern(one, "a2a");
        Setup.exception(one, "-a-");
        CHECK.same("one letter", Setup.values(one, 4), "00020");
        HyphenPatterns x = Setup.withText("abc");
        x.choose(1);
        Setup.exception(x, "a-bc");
        x.choose(0);
        CHECK.same("of another language", x.value(1), 0);
    }

    /** Terms: "the value of each place within it (not before its first, not behind its last letter) is 1 where ..". */
    private static void withinAnException() {
        CHECK.about("Terms", "each place within it (not before its first, not behind its last letter) is 1"
            + " where there is a HYPHEN, else 0");
        String[][] rows = {{"abc", "00000"}, {"-abc", "00000"}, {"abc-", "00000"}, {"a-bc", "00100"},
            {"ab-c", "00010"}, {"-a-b-c-", "00110"}};
        for (String[] row : rows) {
            HyphenPatterns x = Setup.withText(" abc");
            Setup.exception(x, row[0]);
            CHECK.same(row[0], Setup.values(x, 4), row[1]);
            Setup.add(x, " ");
            CHECK.same(row[0] + " and a space", Setup.values(x, 5), row[1] + "0");
        }
    }

    /** Terms: "Otherwise: .." patterns give nothing to a word that is an exception. */
    private static void exceptionsInsteadOfPatterns() {
        CHECK.about("Terms", "Otherwise");
        HyphenPatterns x = Setup.withText("abc abcd");
        Setup.pattern(x, "a9b8c");
        CHECK.same("patterns", Setup.values(x, 8), "098009800");
        Setup.exception(x, "ab-c");
        CHECK.same("an exception", Setup.values(x, 8), "001009800");
        Setup.exception(x, "abcd");
        CHECK.same("two exceptions", Setup.values(x, 8), "001000000");
        x.forget();
        Setup.pattern(x, "a9b8c");
        CHECK.same("patterns again", Setup.values(x, 8), "098009800");
    }

    /** Terms: "the word with EDGE before and behind it is looked through". */
    private static void edgeBeforeAndBehind() {
        CHECK.about("Terms", "the word with EDGE before and behind it is looked through");
        String[][] rows = {{".a1", "01000000"}, {"1b.", "00100010"}, {".b1", "00000000"}, {"1a.", "00000000"},
            {".a1b.", "00000000"}, {".xa1b.", "00000010"}, {".aa1", "00100000"}, {".ab1", "00000000"}};
        for (String[] row : rows) {
            HyphenPatterns x = Setup.withText("aab xab");
            Setup.pattern(x, row[0]);
            CHECK.same(row[0], Setup.values(x, 7), row[1]);
        }
        HyphenPatterns one = Setup.withText("a");
        Setup.pattern(one, ".a.");
        CHECK.same("a word of one letter", one.count(2), 1);
        Setup.pattern(one, "9.9a9.9");
        CHECK.same("has no place within", Setup.values(one, 1), "00");
    }

    /** Terms: "wherever a pattern of the language is, letter by letter": as long as the word, or longer. */
    private static void asLongAsTheWord() {
        CHECK.about("Terms", "wherever a pattern of the language is, letter by letter");
        for (int letters = 2; letters <= 17; letters++) {
            String word = "a".repeat(letters);
            HyphenPatterns x = Setup.withText(word);
            if (letters <= 16) {
                Setup.pattern(x, "a3" + "a".repeat(letters - 1));
                CHECK.same("as long, " + letters, x.value(1), 3);
                CHECK.same("as long, once, " + letters, x.count(2), 1);
            }
            x.forget();
            if (letters <= 15) {
                Setup.pattern(x, "a3" + "a".repeat(letters));
                CHECK.same("one longer, " + letters, x.count(2), 0);
                CHECK.same("one longer, no value, " + letters, x.value(1), 0);
            }
            x.forget();
            if (letters <= 14) {
                Setup.pattern(x, ".a3" + "a".repeat(letters - 1) + ".");
                CHECK.same("with both EDGES, " + letters, x.value(1), 3);
            }
            Setup.add(x, " ");
            CHECK.same("a space behind, " + letters, x.value(1), letters <= 14 ? 3 : 0);
        }
    }

    /** Terms: a word is looked through, so a pattern does not reach from one into the next. */
    private static void notAcrossWords() {
        CHECK.about("Terms", "the word .. is looked through");
        HyphenPatterns x = Setup.withText("ab ab");
        Setup.pattern(x, "b1a");
        CHECK.same("with a space between", x.count(2), 0);
        x.tell('b', ' ', -3, 'a', END);
        x.pattern();
        CHECK.same("the space is no letter", x.count(2), 0);
        x.letters(' ', ' ', ' ');
        CHECK.same("the space is a letter", Setup.values(x, 5), "000300");
        x.clear();
        Setup.add(x, "abb");
        Setup.pattern(x, "b5b");
        x.clear();
        Setup.add(x, "ab");
        CHECK.same("nothing of a longer word before", Setup.values(x, 2), "000");
        CHECK.same("nothing in it", x.count(2), 0);
    }

    /** Terms: "its values belong to the places before, between and behind its letters". */
    private static void beforeBetweenAndBehind() {
        CHECK.about("Terms", "its values belong to the places before, between and behind its letters");
        HyphenPatterns x = Setup.withText("cabc");
        Setup.pattern(x, "1a2b3");
        CHECK.same("within", Setup.values(x, 4), "01230");
        HyphenPatterns y = Setup.withText("ab");
        Setup.pattern(y, "1a2b3");
        CHECK.same("not before, not behind the word", Setup.values(y, 2), "020");
        HyphenPatterns z = Setup.withText("abc");
        Setup.pattern(z, "9.8a1");
        Setup.pattern(z, "2c8.9");
        CHECK.same("beyond EDGES", Setup.values(z, 3), "0120");
    }

    /** Terms: "the value of a place within the word is the greatest of those". */
    private static void theGreatestCounts() {
        CHECK.about("Terms", "the value of a place within the word is the greatest of those");
        for (int first = 1; first <= 9; first++) {
            for (int second = 1; second <= 9; second++) {
                HyphenPatterns x = Setup.withText("abc");
                Setup.pattern(x, "a" + first + "b");
                Setup.pattern(x, second + "bc");
                CHECK.same(first + " and " + second, x.value(1), Math.max(first, second));
            }
        }
        HyphenPatterns x = Setup.withText("aaa");
        Setup.pattern(x, "2a1a3");
        CHECK.same("of one pattern that is there twice", Setup.values(x, 3), "0230");
        HyphenPatterns y = Setup.withText("aa");
        Setup.pattern(y, "a9a");
        Setup.pattern(y, "a1");
        Setup.pattern(y, "a");
        CHECK.same("a lesser one told later, and none", y.value(1), 9);
    }

    /** Terms: "Other places have the value 0." */
    private static void otherPlaces() {
        CHECK.about("Terms", "Other places have the value 0");
        HyphenPatterns x = Setup.withText(" ab  c ");
        Setup.pattern(x, "9a9b9");
        Setup.pattern(x, "9c9");
        CHECK.same("before, between and behind words", Setup.values(x, 7), "00900000");
        x.least(1, 1);
        CHECK.same("are no breaks", Setup.breaks(x, 7), "..|.....");
        HyphenPatterns none = new HyphenPatterns();
        Setup.pattern(none, "9a9");
        Setup.add(none, "aa");
        CHECK.same("no letters", Setup.values(none, 2), "000");
        CHECK.same("no text", new HyphenPatterns().value(0), 0);
    }

    /** Terms: "A word may be BROKEN at a place within it if the value is odd". */
    private static void oddValues() {
        CHECK.about("Terms", "A word may be BROKEN at a place within it if the value is odd");
        HyphenPatterns x = Setup.withText("ab");
        x.least(1, 1);
        CHECK.same("value 0", x.breaks(1), false);
        for (int v = 1; v <= 9; v++) {
            Setup.pattern(x, v + "a" + v + "b" + v);
            CHECK.same("value " + v, x.breaks(1), v % 2 == 1);
            CHECK.same("value " + v + " before the word", x.breaks(0), false);
            CHECK.same("value " + v + " behind the word", x.breaks(2), false);
        }
        Setup.pattern(x, ".a8b.");
        Setup.pattern(x, "a7b");
        CHECK.same("a greater even one", x.breaks(1), false);
        Setup.pattern(x, "a9b");
        CHECK.same("a greater odd one", x.breaks(1), true);
    }

    /** Terms: "at least LEFT letters of the word are before it, at least RIGHT behind it". */
    private static void atLeastLeftAndRight() {
        CHECK.about("Terms", "at least LEFT letters of the word are before it, at least RIGHT behind it");
        HyphenPatterns x = Setup.withText("xx aaaaaa xx");
        Setup.pattern(x, "a1a");
        for (int left = 1; left <= 7; left++) {
            for (int right = 1; right <= 7; right++) {
                x.least(left, right);
                CHECK.same("breaks with " + left + ", " + right, x.count(1), Math.max(0, 7 - left - right));
            }
        }
        x.least(4, 2);
        CHECK.same("4 and 2", Setup.breaks(x, 12), ".......|.....");
        x.least(4, 3);
        CHECK.same("4 and 3", x.breaks(7), false);
        x.least(5, 2);
        CHECK.same("5 and 2", x.breaks(7), false);
        Setup.exception(x, "a-a-a-a-a-a");
        x.least(2, 3);
        CHECK.same("in an exception", Setup.breaks(x, 12), ".....||......");
    }

    /** "An object is used for at most 512 calls": the 512th still answers, whatever it is. */
    private static void atMost512Calls() {
        CHECK.about("What it is", "An object is used for at most 512 calls after it has been made");
        CHECK.same("choose", usedFor511Calls().choose(3), 1);
        CHECK.fine("letters", () -> usedFor511Calls().letters('a', 'z', 'a'));
        CHECK.fine("least", () -> usedFor511Calls().least(20, 20));
        CHECK.same("tell", usedFor511Calls().tell(1, 1, 1, 1, 1), 6);
        CHECK.same("drop", usedFor511Calls().drop(), 1);
        CHECK.same("pattern", usedFor511Calls().pattern(), 1);
        CHECK.same("exception", usedFor511Calls().exception(), 1);
        CHECK.same("forget", usedFor511Calls().forget(), 39 + 175);
        CHECK.same("add", usedFor511Calls().add(END, 0, 0, 0, 0), 400);
        CHECK.state("add above 400", () -> usedFor511Calls().add('a', END, 0, 0, 0));
        CHECK.same("clear", usedFor511Calls().clear(), 400);
        CHECK.same("value", usedFor511Calls().value(399), 9);
        CHECK.same("breaks", usedFor511Calls().breaks(397), true);
        CHECK.same("word", usedFor511Calls().word(0, true), 400);
        CHECK.same("count of breaks", usedFor511Calls().count(1), 396);
        CHECK.same("count of patterns in words", usedFor511Calls().count(2), 400);
    }

    /** 2 calls for letters, 80 for the text, 78 for exceptions, 350 for patterns, and one of tell. */
    private static HyphenPatterns usedFor511Calls() {
        HyphenPatterns x = new HyphenPatterns();
        x.choose(1);
        x.letters(1, LAST, 1);
        for (int i = 0; i < 80; i++) {
            x.add('a', 'a', 'a', 'a', 'a');
        }
        for (int i = 0; i < 39; i++) {
            x.tell(i + 1, HYPHEN, i + 1, END, 0);
            x.exception();
        }
        for (int i = 0; i < 175; i++) {
            x.tell(i == 0 ? 'a' : 1000 + i, -9, END, 0, 0);
            x.pattern();
        }
        x.tell(2000, END, 0, 0, 0);
        return x;
    }
}
