/** Promises 4, 5, 6, 12, 26 and 32: the draft and the book. */
public final class BookTest {
    public static void main(String[] args) {
        Checks.test("promise 4: lay", BookTest::lay);
        Checks.test("promise 5: word", BookTest::word);
        Checks.test("promise 5: word, its reasons", BookTest::wordReasons);
        Checks.test("promise 5: word, the order of its reasons", BookTest::wordReasonOrder);
        Checks.test("promise 6: strike", BookTest::strike);
        Checks.test("promise 12: wordOf", BookTest::wordOf);
        Checks.test("promise 26: listed", BookTest::listed);
        Checks.test("promise 32: writeBook", BookTest::writeBook);
        Checks.close();
    }

    private static void lay() {
        DrownedBells x = new DrownedBells();
        String wrong = "fA`-/ \u0000\uffff";
        for (char sign : wrong.toCharArray()) {
            Checks.due("lay of code " + (int) sign, x.lay(sign), -2);
        }
        String signs = ".abcde.abcde.abcde.a";
        for (int place = 0; place < 20; place++) {
            Checks.due("lay", x.lay(signs.charAt(place)), place + 1);
        }
        Checks.due("lay to a full draft", x.lay('a'), -4);
        Checks.due("lay of a wrong sign to a full draft", x.lay('z'), -2);
        Checks.due("signs of the draft", x.account(7), 20);
        Checks.due("changes", x.account(9), 0);
    }

    private static void word() {
        DrownedBells x = new DrownedBells();
        Checks.due("word a", Checks.word(x, 2, "a"), 0);
        Checks.due("draft", x.account(7), 0);
        Checks.due("word b..e", Checks.word(x, 0, "b..e"), 1);
        Checks.due("word ab", Checks.word(x, 1, "ab"), 2);
        Checks.due("words", x.account(0), 3);
        Checks.due("changes", x.account(9), 3);
        x.writeBook();
        Checks.due("book", Checks.line(x), "t:a n:b..e d:ab");
    }

    private static void wordReasons() {
        DrownedBells x = new DrownedBells();
        Checks.due("word(-1)", x.word(-1), -2);
        Checks.due("word(3)", x.word(3), -2);
        Checks.due("word(0) of no signs", x.word(0), -5);
        Checks.due("reasons", Checks.reasons(x), "4:0<-6:-6");
        Checks.due("abcde", Checks.word(x, 0, "abcde"), -5);
        Checks.due("reasons", Checks.reasons(x), "4:5<-6:-6");
        Checks.due("the draft stays", x.account(7), 5);

        x = new DrownedBells();
        Checks.due("..", Checks.word(x, 0, ".."), -5);
        Checks.due("reasons", Checks.reasons(x), "5:0<-6:-6");
        x = new DrownedBells();
        Checks.due("ab.", Checks.word(x, 0, "ab."), -5);
        Checks.due("reasons", Checks.reasons(x), "5:2<-6:-6");
        x = new DrownedBells();
        Checks.due(".a", Checks.word(x, 0, ".a"), -5);
        Checks.due("reasons", Checks.reasons(x), "5:0<-6:-6");

        x = Checks.withBook();
        Checks.due("a.e", Checks.word(x, 0, "a.e"), -5);
        Checks.due("reasons", Checks.reasons(x), "2:2<-6:-6");
        Checks.due("changes", x.account(9), 4);
    }

    private static void wordReasonOrder() {
        DrownedBells x = new DrownedBells();
        for (String signs : new String[] {"a", "b", "c", "d", "e", "aa", "bb"}) {
            Checks.word(x, 2, signs);
        }
        Checks.due("the 8th word", Checks.word(x, 2, "cc"), 7);
        Checks.due("the 9th word", Checks.word(x, 2, "dd"), -5);
        Checks.due("reasons", Checks.reasons(x), "1:8<-6:-6");
        x.lay('.');
        Checks.due("dd.", x.word(0), -5);
        Checks.due("reasons", Checks.reasons(x), "5:2<-6:-6");
        Checks.lay(x, "..");
        Checks.due("dd...", x.word(0), -5);
        Checks.due("reasons", Checks.reasons(x), "4:5<-6:-6");
        Checks.due("a wrong kind ahead of reasons", x.word(9), -2);

        x.strike(0);
        Checks.due("draft", x.account(7), 5);
        DrownedBells y = new DrownedBells();
        for (String signs : new String[] {"a", "b", "c", "d", "e", "aa", "bb", "cc"}) {
            Checks.word(y, 2, signs);
        }
        Checks.due("cc again in a full book", Checks.word(y, 0, "cc"), -5);
        Checks.due("reasons", Checks.reasons(y), "2:7<-6:-6");
    }

    private static void strike() {
        DrownedBells x = Checks.withBook();
        Checks.due("strike(-1)", x.strike(-1), -1);
        Checks.due("strike(4)", x.strike(4), -1);
        Checks.due("strike(1)", x.strike(1), 3);
        x.writeBook();
        Checks.due("book", Checks.line(x), "n:ab t:a.e t:d");
        Checks.due("strike(2)", x.strike(2), 2);
        Checks.due("strike(0)", x.strike(0), 1);
        Checks.due("strike(0)", x.strike(0), 0);
        Checks.due("strike(0)", x.strike(0), -1);
        Checks.due("changes", x.account(9), 8);
        Checks.due("a word again", Checks.word(x, 1, "ab"), 0);
    }

    private static void wordOf() {
        DrownedBells x = new DrownedBells();
        Checks.word(x, 1, "a..b");
        Checks.word(x, 2, "e");
        int[][] due = {{1, 4, 2}, {2, 1, 0}};
        for (int word = 0; word < 2; word++) {
            for (int what = 0; what < 3; what++) {
                Checks.due("wordOf(" + word + ", " + what + ")", x.wordOf(word, what), due[word][what]);
            }
        }
        Checks.due("wordOf(-1, 0)", x.wordOf(-1, 0), -1);
        Checks.due("wordOf(2, 7)", x.wordOf(2, 7), -1);
        Checks.due("wordOf(0, -1)", x.wordOf(0, -1), -2);
        Checks.due("wordOf(0, 3)", x.wordOf(0, 3), -2);
    }

    private static void listed() {
        DrownedBells x = new DrownedBells();
        Checks.due("listed(0) of no words", x.listed(0), -1);
        String[] words = {"e", "ab", "a.b", "a", "a..b", "aa", "abab", "b"};
        for (String signs : words) {
            Checks.word(x, 0, signs);
        }
        int[] order = {3, 4, 2, 5, 1, 6, 7, 0};
        for (int place = 0; place < 8; place++) {
            Checks.due("listed(" + place + ")", x.listed(place), order[place]);
        }
        Checks.due("listed(-1)", x.listed(-1), -1);
        Checks.due("listed(8)", x.listed(8), -1);
        x.strike(3);
        Checks.due("listed(0)", x.listed(0), 3);
        Checks.due("listed(7)", x.listed(7), -1);

        DrownedBells y = new DrownedBells();
        String[] falling = {"aaae", "aaad", "aaac", "aaab", "aaaa", "aa.a", "a..a", "a"};
        for (String signs : falling) {
            Checks.word(y, 1, signs);
        }
        for (int place = 0; place < 8; place++) {
            Checks.due("signs that are next to one another", y.listed(place), 7 - place);
        }
    }

    private static void writeBook() {
        DrownedBells x = new DrownedBells();
        Checks.due("writeBook() of no words", x.writeBook(), 0);
        x = Checks.withBook();
        Checks.due("writeBook()", x.writeBook(), 18);
        Checks.due("line", Checks.line(x), "n:ab d:c t:a.e t:d");
        for (String signs : new String[] {"aaaa", "b..b", "cccc", "dede"}) {
            Checks.word(x, 0, signs);
        }
        Checks.due("writeBook()", x.writeBook(), 18 + 4 * 7);
        Checks.due("line", Checks.line(x), "n:ab d:c t:a.e t:d n:aaaa n:b..b n:cccc n:dede");
        for (int i = 0; i < 4; i++) {
            x.strike(0);
        }
        for (String signs : new String[] {"eeee", "e.ee", "ee.e", "abcd"}) {
            Checks.word(x, 2, signs);
        }
        Checks.due("the longest line", x.writeBook(), 55);
        Checks.due("line", Checks.line(x), "n:aaaa n:b..b n:cccc n:dede t:eeee t:e.ee t:ee.e t:abcd");
    }
}
