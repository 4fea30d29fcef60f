/** One method for each promise of the document: ordinary inputs, edges, wrong inputs. */
public final class PromisesTest {
    private static final int END = HyphenPatterns.END;
    private static final int LAST = 1114111;
    private static final int MIN = Integer.MIN_VALUE;
    private static final int MAX = Integer.MAX_VALUE;
    private static final Check CHECK = new Check();

    public static void main(String[] args) {
        promise1NewObject();
        promise2Choose();
        promise3Letters();
        promise3WrongLetters();
        promise4Least();
        promise5Tell();
        promise6Drop();
        promise7Pattern();
        promise7WrongPatterns();
        promise7Room();
        promise8Exception();
        promise8WrongExceptions();
        promise8Room();
        promise9Forget();
        promise10Add();
        promise11Clear();
        promise12Value();
        promise12ExceptionValue();
        promise13Breaks();
        promise14Word();
        promise15Count();
        CHECK.end();
    }

    private static void promise1NewObject() {
        HyphenPatterns x = new HyphenPatterns();
        CHECK.same("1 text", x.clear(), 0);
        CHECK.same("1 telling", x.drop(), 0);
        CHECK.same("1 language", x.choose(0), 0);
        for (int language = 0; language < 4; language++) {
            x.choose(language);
            for (int what = 0; what <= 4; what++) {
                CHECK.same("1 count", x.count(what), 0);
            }
            CHECK.same("1 forget", x.forget(), 0);
        }
        x.add('a', 1, LAST, 32, END);
        for (int language = 0; language < 4; language++) {
            x.choose(language);
            CHECK.same("1 no letters", x.count(0), 0);
        }
        CHECK.same("1 NONE", HyphenPatterns.NONE, -1);
        CHECK.same("1 EDGE", HyphenPatterns.EDGE, 0);
        CHECK.same("1 HYPHEN", HyphenPatterns.HYPHEN, -10);
        CHECK.same("1 END", HyphenPatterns.END, -11);
    }

    private static void promise2Choose() {
        HyphenPatterns x = Setup.withText("aaaaaa");
        Setup.pattern(x, "a1a");
        CHECK.same("2 before", x.choose(3), 0);
        CHECK.same("2 its own letters", x.count(0), 0);
        CHECK.same("2 its own patterns", x.count(3), 0);
        CHECK.bounds("2 below", () -> x.choose(-1));
        CHECK.bounds("2 above", () -> x.choose(4));
        CHECK.bounds("2 far below", () -> x.choose(MIN));
        CHECK.bounds("2 far above", () -> x.choose(MAX));
        CHECK.same("2 a throw changes nothing", x.choose(3), 3);
        x.letters('a', 'a', 'a');
        x.least(1, 1);
        CHECK.same("2 letters of 3", x.count(0), 1);
        CHECK.same("2 patterns of 3", x.count(1), 0);
        CHECK.same("2 back", x.choose(0), 3);
        CHECK.same("2 LEFT and RIGHT of 0", Setup.breaks(x, 6), "..||...");
        CHECK.same("2 the telling is shared", tellThenChoose(), 2);
    }

    private static int tellThenChoose() {
        HyphenPatterns x = new HyphenPatterns();
        x.tell('a', 'b', END, 0, 0);
        x.choose(2);
        int size = x.pattern();
        return x.count(3) == 1 ? size : -1;
    }

    private static void promise3Letters() {
        HyphenPatterns x = new HyphenPatterns();
        Setup.add(x, "abCDe f");
        x.letters('a', 'f', 'a');
        CHECK.same("3 small letters", x.count(0), 3);
        x.letters('A', 'F', 'a');
        CHECK.same("3 big letters too", x.count(0), 2);
        Setup.pattern(x, "c3d");
        CHECK.same("3 big count as small", Setup.values(x, 7), "00030000");
        x.letters('D', 'D', 0);
        CHECK.same("3 one is none", x.count(0), 3);
        x.letters('A', 'F', 'b');
        CHECK.same("3 the last wins", Setup.values(x, 7), "00000000");
        x.letters('C', 'C', 'c');
        x.letters('D', 'D', 'd');
        CHECK.same("3 the last wins in part", Setup.values(x, 7), "00030000");
        x.letters(' ', ' ', 1);
        CHECK.same("3 a space may be a letter", x.count(0), 1);
        x.letters(1, LAST, 0);
        CHECK.same("3 all are none, the bounds too", x.count(0), 0);
        x.letters(1, LAST, 1);
        CHECK.same("3 all are letters", x.count(0), 1);
        x.letters('a', 'f', LAST - 5);
        x.tell(LAST - 5, -7, LAST - 4, END, 0);
        x.pattern();
        CHECK.same("3 the top letters", Setup.values(x, 7), "07000000");
    }

    private static void promise3WrongLetters() {
        HyphenPatterns x = Setup.withText("ab");
        CHECK.argument("3 first 0", () -> x.letters(0, 5, 1));
        CHECK.argument("3 first below", () -> x.letters(MIN, 5, 1));
        CHECK.argument("3 first above", () -> x.letters(LAST + 1, LAST + 1, 1));
        CHECK.argument("3 last above", () -> x.letters(1, LAST + 1, 0));
        CHECK.argument("3 last far above", () -> x.letters(1, MAX, 0));
        CHECK.argument("3 last 0", () -> x.letters(1, 0, 0));
        CHECK.argument("3 turned", () -> x.letters(98, 97, 97));
        CHECK.argument("3 to below", () -> x.letters(97, 98, -1));
        CHECK.argument("3 to far below", () -> x.letters(97, 98, MIN));
        CHECK.argument("3 to above", () -> x.letters(97, 97, LAST + 1));
        CHECK.argument("3 the last letter above", () -> x.letters(97, 98, LAST));
        CHECK.argument("3 wrapping", () -> x.letters(97, 98, MAX));
        CHECK.same("3 nothing changed", x.count(0), 1);
        for (int i = 1; i < 20; i++) {
            x.letters('b', 'b', i % 2);
        }
        CHECK.same("3 range 20 counts", x.count(0), 1);
        CHECK.state("3 range 21", () -> x.letters('a', 'b', 0));
        CHECK.argument("3 the first one wins", () -> x.letters(98, 97, 97));
        CHECK.same("3 nothing changed by range 21", x.word(0, true), 2);
        x.forget();
        CHECK.state("3 forget leaves the ranges", () -> x.letters('a', 'b', 0));
        x.choose(1);
        CHECK.fine("3 another language has room", () -> x.letters('a', 'b', 'a'));
    }

    private static void promise4Least() {
        HyphenPatterns x = Setup.withText("aaaaaaaa");
        Setup.pattern(x, "a1a");
        CHECK.same("4 at first", Setup.breaks(x, 8), "..||||...");
        x.least(1, 1);
        CHECK.same("4 one and one", Setup.breaks(x, 8), ".|||||||.");
        x.least(3, 2);
        CHECK.same("4 three and two", Setup.breaks(x, 8), "...||||..");
        CHECK.argument("4 left 0", () -> x.least(0, 1));
        CHECK.argument("4 right 0", () -> x.least(1, 0));
        CHECK.argument("4 left 21", () -> x.least(21, 1));
        CHECK.argument("4 right 21", () -> x.least(1, 21));
        CHECK.argument("4 far off", () -> x.least(MIN, MAX));
        CHECK.same("4 a throw changes nothing", Setup.breaks(x, 8), "...||||..");
        CHECK.fine("4 twenty", () -> x.least(20, 20));
        CHECK.same("4 no room", x.count(1), 0);
        x.choose(1);
        x.letters('a', 'z', 'a');
        Setup.pattern(x, "a1a");
        CHECK.same("4 another language has its own", x.count(1), 4);
    }

    private static void promise5Tell() {
        HyphenPatterns x = new HyphenPatterns();
        CHECK.same("5 none", x.tell(END, -12, MIN, MAX, LAST + 1), 0);
        CHECK.same("5 five", x.tell(1, LAST, 0, -9, -10), 5);
        CHECK.same("5 three", x.tell(-1, 5, 5, END, 5), 8);
        CHECK.argument("5 below", () -> x.tell(1, 1, 1, 1, -12));
        CHECK.argument("5 above", () -> x.tell(LAST + 1, END, 1, 1, 1));
        CHECK.argument("5 far below", () -> x.tell(1, MIN, END, 1, 1));
        CHECK.argument("5 far above", () -> x.tell(MAX, 1, 1, 1, 1));
        CHECK.same("5 a throw changes nothing", x.tell(END, 1, 1, 1, 1), 8);
        for (int i = 0; i < 6; i++) {
            x.tell(7, 7, 7, 7, 7);
        }
        CHECK.state("5 41", () -> x.tell(7, 7, 7, END, 7));
        CHECK.argument("5 the first one wins", () -> x.tell(7, 7, 7, 7, -12));
        CHECK.same("5 40", x.tell(7, 7, END, 7, 7), 40);
        CHECK.state("5 one above 40", () -> x.tell(7, END, 7, 7, 7));
        CHECK.same("5 none above 40", x.tell(END, 7, 7, 7, 7), 40);
    }

    private static void promise6Drop() {
        HyphenPatterns x = new HyphenPatterns();
        x.tell('a', 'b', END, 0, 0);
        CHECK.same("6 two", x.drop(), 2);
        CHECK.same("6 none", x.drop(), 0);
        CHECK.argument("6 nothing is left", x::pattern);
        CHECK.same("6 from the start", x.tell('c', END, 0, 0, 0), 1);
        CHECK.same("6 only the new one", x.pattern(), 1);
    }

    private static void promise7Pattern() {
        HyphenPatterns x = Setup.withText("abc");
        CHECK.same("7 letters", Setup.pattern(x, "1a2b3"), 2);
        CHECK.same("7 empty then", x.drop(), 0);
        CHECK.same("7 EDGES count", Setup.pattern(x, "9.8a7.6"), 3);
        CHECK.same("7 no values", Setup.pattern(x, "c"), 1);
        CHECK.same("7 three", x.count(3), 3);
        CHECK.same("7 values", Setup.values(x, 3), "0230");
        CHECK.same("7 in place of", Setup.pattern(x, "ab1"), 2);
        CHECK.same("7 still three", x.count(3), 3);
        CHECK.same("7 the new values alone", Setup.values(x, 3), "0010");
        Setup.pattern(x, ".ab");
        Setup.pattern(x, "ab.");
        Setup.pattern(x, ".ab.");
        CHECK.same("7 EDGES make others", x.count(3), 6);
        CHECK.same("7 sixteen", Setup.pattern(x, "1a1a1a1a1a1a1a1a1a1a1a1a1a1a1a1a1"), 16);
        CHECK.same("7 sixteen with EDGES", Setup.pattern(x, ".aaaaaaaaaaaaaa."), 16);
        x.choose(1);
        Setup.pattern(x, "ab4");
        CHECK.same("7 of the language", x.count(3), 1);
        x.choose(0);
        CHECK.same("7 not of another", Setup.values(x, 3), "0010");
    }

    private static void promise7WrongPatterns() {
        String[] wrong = {"", "1", ".", "..", ".1.", "1.", "...", "a.b", "..a", "a..", ".a.b", "a12b", "12a", "a12",
            "a-b", "-a", "a-", "-", "a1-b", "aaaaaaaaaaaaaaaaa", ".aaaaaaaaaaaaaaaa", ".aaaaaaaaaaaaaaa."};
        for (String row : wrong) {
            HyphenPatterns x = new HyphenPatterns();
            Setup.tell(x, row);
            CHECK.argument("7 wrong " + row, x::pattern);
            CHECK.same("7 nothing kept of " + row, x.count(3), 0);
            CHECK.same("7 still told " + row, x.drop(), row.length());
        }
    }

    /** 300 patterns take more than 512 calls, so the last of these rows hold for this program alone. */
    private static void promise7Room() {
        HyphenPatterns x = new HyphenPatterns();
        for (int i = 1; i <= 300; i++) {
            x.choose(i % 4);
            x.tell(i, -1, END, 0, 0);
            CHECK.same("7 one more", x.pattern(), 1);
        }
        x.tell(301, END, 0, 0, 0);
        CHECK.state("7 the 301st", x::pattern);
        CHECK.same("7 still told", x.drop(), 1);
        x.tell(-10, END, 0, 0, 0);
        CHECK.argument("7 the first one wins", x::pattern);
        x.drop();
        x.choose(1);
        x.tell(2, END, 0, 0, 0);
        CHECK.state("7 those of another language do not help", x::pattern);
        x.drop();
        x.tell(1, -3, END, 0, 0);
        CHECK.same("7 in place of", x.pattern(), 1);
        CHECK.same("7 a quarter", x.count(3), 75);
        x.tell(4, END, 0, 0, 0);
        CHECK.same("7 exceptions have room", x.exception(), 1);
    }

    private static void promise8Exception() {
        HyphenPatterns x = Setup.withText("abcd");
        Setup.pattern(x, "b4c");
        CHECK.same("8 letters", Setup.exception(x, "-a-bc-d-"), 4);
        CHECK.same("8 empty then", x.drop(), 0);
        CHECK.same("8 one", x.count(4), 1);
        CHECK.same("8 no pattern", x.count(3), 1);
        CHECK.same("8 values", Setup.values(x, 4), "01010");
        CHECK.same("8 in place of", Setup.exception(x, "ab-cd"), 4);
        CHECK.same("8 still one", x.count(4), 1);
        CHECK.same("8 the new hyphens alone", Setup.values(x, 4), "00100");
        CHECK.same("8 without hyphens", Setup.exception(x, "abcd"), 4);
        CHECK.same("8 no value", Setup.values(x, 4), "00000");
        CHECK.same("8 one letter", Setup.exception(x, "a"), 1);
        CHECK.same("8 forty", Setup.exception(x, "a".repeat(40)), 40);
        CHECK.same("8 thirty-nine", Setup.exception(x, "a".repeat(20) + "-" + "a".repeat(19)), 39);
        x.choose(2);
        CHECK.same("8 of the language", x.count(4), 0);
    }

    private static void promise8WrongExceptions() {
        String[] wrong = {"", "-", "--", "a--b", "--a", "a--", ".", ".a", "a.", "a.b", "a1b", "1a", "a1", "a-1b", "9"};
        for (String row : wrong) {
            HyphenPatterns x = new HyphenPatterns();
            Setup.tell(x, row);
            CHECK.argument("8 wrong " + row, x::exception);
            CHECK.same("8 nothing kept of " + row, x.count(4), 0);
            CHECK.same("8 still told " + row, x.drop(), row.length());
        }
    }

    private static void promise8Room() {
        HyphenPatterns x = new HyphenPatterns();
        for (int i = 1; i <= 40; i++) {
            x.choose(i % 4);
            x.tell(i, i, END, 0, 0);
            CHECK.same("8 one more", x.exception(), 2);
        }
        x.tell(41, END, 0, 0, 0);
        CHECK.state("8 the 41st", x::exception);
        CHECK.same("8 still told", x.drop(), 1);
        CHECK.argument("8 the first one wins", x::exception);
        x.choose(1);
        x.tell(2, 2, END, 0, 0);
        CHECK.state("8 those of another language do not help", x::exception);
        x.drop();
        x.tell(1, -10, 1, END, 0);
        CHECK.same("8 in place of", x.exception(), 2);
        CHECK.same("8 a quarter", x.count(4), 10);
        x.tell(41, END, 0, 0, 0);
        CHECK.same("8 patterns have room", x.pattern(), 1);
        x.forget();
        x.tell(41, END, 0, 0, 0);
        CHECK.same("8 forget makes room", x.exception(), 1);
    }

    private static void promise9Forget() {
        HyphenPatterns x = Setup.withText("abcdef abc");
        Setup.pattern(x, "b1c");
        Setup.pattern(x, "d1e");
        Setup.exception(x, "a-bc");
        x.choose(1);
        x.letters('a', 'z', 'a');
        Setup.pattern(x, "c3d");
        x.tell('a', END, 0, 0, 0);
        CHECK.same("9 one", x.forget(), 1);
        CHECK.same("9 none", x.forget(), 0);
        CHECK.same("9 the telling stays", x.drop(), 1);
        CHECK.same("9 the letters stay", x.count(0), 2);
        x.choose(0);
        CHECK.same("9 another language stays", Setup.values(x, 10), "00101000100");
        x.least(1, 1);
        CHECK.same("9 three", x.forget(), 3);
        CHECK.same("9 no patterns", x.count(3), 0);
        CHECK.same("9 no exceptions", x.count(4), 0);
        CHECK.same("9 no values", Setup.values(x, 10), "00000000000");
        Setup.pattern(x, "a1b");
        CHECK.same("9 LEFT and RIGHT stay", x.count(1), 2);
    }

    private static void promise10Add() {
        HyphenPatterns x = new HyphenPatterns();
        CHECK.same("10 none", x.add(END, 0, MIN, MAX, LAST + 1), 0);
        CHECK.same("10 five", x.add(1, LAST, 32, 97, 98), 5);
        CHECK.same("10 two", x.add(97, 98, END, -1, 0), 7);
        CHECK.argument("10 zero", () -> x.add(1, 1, 1, 1, 0));
        CHECK.argument("10 HYPHEN", () -> x.add(-10, END, 1, 1, 1));
        CHECK.argument("10 above", () -> x.add(1, LAST + 1, END, 1, 1));
        CHECK.argument("10 far off", () -> x.add(MIN, MAX, 1, 1, 1));
        CHECK.same("10 a throw changes nothing", x.add(END, 1, 1, 1, 1), 7);
        for (int i = 0; i < 78; i++) {
            x.add(97, 97, 97, 97, 97);
        }
        CHECK.state("10 401", () -> x.add(97, 97, 97, 97, END));
        CHECK.argument("10 the first one wins", () -> x.add(97, 97, 97, 97, 0));
        CHECK.same("10 400", x.add(97, 97, 97, END, 97), 400);
        CHECK.state("10 one above 400", () -> x.add(97, END, 97, 97, 97));
        CHECK.same("10 none above 400", x.add(END, 97, 97, 97, 97), 400);
        x.letters(1, LAST, 1);
        CHECK.same("10 the word of 400", x.word(0, true), 400);
        x.tell(97, -1, 97, END, 0);
        x.pattern();
        x.tell(97, -2, 0, END, 0);
        x.pattern();
        CHECK.same("10 patterns in it", x.count(2), 393);
        CHECK.same("10 breaks in it", x.count(1), 390);
    }

    private static void promise11Clear() {
        HyphenPatterns x = Setup.withText("abc");
        Setup.pattern(x, "a1b");
        x.tell('a', END, 0, 0, 0);
        CHECK.same("11 three", x.clear(), 3);
        CHECK.same("11 none", x.clear(), 0);
        CHECK.same("11 no words", x.count(0), 0);
        CHECK.bounds("11 no place 1", () -> x.value(1));
        CHECK.same("11 the telling stays", x.drop(), 1);
        Setup.add(x, "xab");
        CHECK.same("11 a new text", Setup.values(x, 3), "0010");
    }

    private static void promise12Value() {
        HyphenPatterns x = Setup.withText("abab ba-a");
        Setup.pattern(x, "7a2b7");
        CHECK.same("12 both, but not at the ends", Setup.values(x, 9), "0272000000");
        Setup.pattern(x, "b8.");
        CHECK.same("12 behind the word nothing counts", Setup.values(x, 9), "0272000000");
        Setup.pattern(x, ".a3b");
        CHECK.same("12 EDGE before", Setup.values(x, 9), "0372000000");
        Setup.pattern(x, "4ab.");
        Setup.pattern(x, "a5b.");
        CHECK.same("12 EDGE behind", Setup.values(x, 9), "0375000000");
        Setup.pattern(x, ".b1a.");
        CHECK.same("12 both EDGES", Setup.values(x, 9), "0375001000");
        Setup.pattern(x, "6.b");
        Setup.pattern(x, ".9a");
        CHECK.same("12 before the word nothing counts", Setup.values(x, 9), "0375001000");
        CHECK.bounds("12 below", () -> x.value(-1));
        CHECK.bounds("12 above", () -> x.value(10));
        CHECK.bounds("12 far below", () -> x.value(MIN));
        CHECK.bounds("12 far above", () -> x.value(MAX));
        CHECK.same("12 place 0 of no text", new HyphenPatterns().value(0), 0);
        CHECK.bounds("12 place 1 of no text", () -> new HyphenPatterns().value(1));
    }

    private static void promise12ExceptionValue() {
        HyphenPatterns x = Setup.withText("abc abcd zabc");
        x.letters('B', 'B', 'b');
        Setup.pattern(x, "a6b");
        Setup.exception(x, "ab-c-");
        CHECK.same("12 the whole word alone", Setup.values(x, 13), "00100600000600");
        x.clear();
        Setup.add(x, "aBc");
        CHECK.same("12 letters, not characters", Setup.values(x, 3), "0010");
        x.letters('c', 'c', 'd');
        CHECK.same("12 as the letters are now", Setup.values(x, 3), "0600");
    }

    private static void promise13Breaks() {
        HyphenPatterns x = Setup.withText("abcdefgh xy");
        Setup.pattern(x, "a1b2c3d4e5f7g9h");
        Setup.pattern(x, "x1y");
        CHECK.same("13 odd and far enough", Setup.breaks(x, 11), "...|.|......");
        x.least(1, 1);
        CHECK.same("13 odd", Setup.breaks(x, 11), ".|.|.|||..|.");
        x.least(1, 2);
        CHECK.same("13 RIGHT counts in the word", Setup.breaks(x, 11), ".|.|.||.....");
        Setup.exception(x, "-abc-def-gh-");
        CHECK.same("13 an exception", Setup.breaks(x, 11), "...|..|.....");
        x.least(4, 2);
        CHECK.same("13 LEFT for an exception", Setup.breaks(x, 11), "......|.....");
        x.least(4, 3);
        CHECK.same("13 RIGHT for an exception", Setup.breaks(x, 11), "............");
        CHECK.bounds("13 below", () -> x.breaks(-1));
        CHECK.bounds("13 above", () -> x.breaks(12));
        CHECK.bounds("13 far below", () -> x.breaks(MIN));
        CHECK.bounds("13 far above", () -> x.breaks(MAX));
    }

    private static void promise14Word() {
        HyphenPatterns x = Setup.withText(" ab  c-def");
        int[] starts = {1, 5, 7};
        int[] ends = {3, 6, 10};
        for (int k = 0; k < 3; k++) {
            CHECK.same("14 before", x.word(k, false), starts[k]);
            CHECK.same("14 behind", x.word(k, true), ends[k]);
        }
        for (int k : new int[] {3, -1, MIN, MAX}) {
            CHECK.same("14 none", x.word(k, false), -1);
            CHECK.same("14 none", x.word(k, true), -1);
        }
        x.letters('-', '-', '-');
        CHECK.same("14 one row", x.word(1, true), 10);
        x.clear();
        CHECK.same("14 none in no text", x.word(0, false), -1);
        Setup.add(x, "a ");
        CHECK.same("14 from place 0", x.word(0, false), 0);
    }

    private static void promise15Count() {
        HyphenPatterns x = Setup.withText("aaaa aa, baaa");
        Setup.pattern(x, "a1a");
        Setup.pattern(x, ".a");
        Setup.pattern(x, "a.");
        Setup.pattern(x, "aaa");
        CHECK.same("15 words", x.count(0), 3);
        CHECK.same("15 breaks", x.count(1), 0);
        CHECK.same("15 patterns in words", x.count(2), 6 + 2 + 3 + 3);
        CHECK.same("15 patterns", x.count(3), 4);
        Setup.exception(x, "a-aaa");
        Setup.exception(x, "ca");
        CHECK.same("15 exceptions", x.count(4), 2);
        CHECK.same("15 patterns not in exceptions", x.count(2), 3 + 1 + 2 + 1);
        x.least(1, 1);
        CHECK.same("15 breaks at places", x.count(1), 1 + 1 + 2);
        for (int what : new int[] {-1, 5, MIN, MAX}) {
            CHECK.same("15 another", x.count(what), -1);
        }
        x.choose(1);
        for (int what = 0; what <= 4; what++) {
            CHECK.same("15 in another language", x.count(what), 0);
        }
    }
}
