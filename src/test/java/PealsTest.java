/** Promises 10, 14 to 19, 23, 29, 31 and 33: peals that are rung, parsed, echoed and written. */
public final class PealsTest {
    public static void main(String[] args) {
        Checks.test("promise 10: ring", PealsTest::ring);
        Checks.test("promise 10: ring, worn ropes", PealsTest::ringWorn);
        Checks.test("promise 10: ring, its reasons", PealsTest::ringReasons);
        Checks.test("promise 10: the latest five are kept", PealsTest::latestFive);
        Checks.test("promises 14 and 15: parses and parsesAgain", PealsTest::parses);
        Checks.test("promises 14 and 15: the book as it is now", PealsTest::parsesNow);
        Checks.test("promise 15: parsesAgain of each peal, nothing else asked before", PealsTest::parsesAgainAlone);
        Checks.test("promise 16: draftParses", PealsTest::draftParses);
        Checks.test("promise 16: draftParses, at most 9999", PealsTest::draftParsesMost);
        Checks.test("promise 17: said", PealsTest::said);
        Checks.test("promise 18: silences", PealsTest::silences);
        Checks.test("promise 19: signOf", PealsTest::signOf);
        Checks.test("promise 23: echoes", PealsTest::echoes);
        Checks.test("promise 29: meantShare", PealsTest::meantShare);
        Checks.test("promise 31: write", PealsTest::write);
        Checks.test("promise 33: written", PealsTest::written);
        Checks.close();
    }

    private static void ring() {
        DrownedBells x = new DrownedBells();
        Checks.due("ring", Checks.ring(x, "..aba.e."), 4);
        Checks.due("draft", x.account(7), 0);
        Checks.due("peals kept", x.account(2), 1);
        Checks.due("peals rung", x.account(3), 1);
        Checks.due("bells rung", x.account(4), 4);
        Checks.due("bells silent", x.account(5), 0);
        Checks.due("wear of all", x.account(6), 4);
        Checks.due("wear of a", x.bellOf(0, 1), 2);
        Checks.due("changes", x.account(9), 1);
    }

    private static void ringWorn() {
        DrownedBells x = new DrownedBells();
        Checks.ring(x, "aaaaaaaa");
        Checks.due("it falls silent within a peal", Checks.ring(x, "ab.aba"), 3);
        x.write(0);
        Checks.due("line", Checks.line(x), "ab..b.");
        Checks.due("bells silent", x.account(5), 2);
        Checks.due("wear of a", x.bellOf(0, 1), 9);
        Checks.due("bells rung", x.account(4), 11);
        Checks.due("again", Checks.ring(x, "aab"), 1);
        Checks.due("bells silent", x.account(5), 4);
    }

    private static void ringReasons() {
        DrownedBells x = new DrownedBells();
        Checks.due("ring of no signs", x.ring(), -5);
        Checks.due("reasons", Checks.reasons(x), "4:0<-6:-6");
        Checks.due("ring of silences", Checks.ring(x, "..."), -5);
        Checks.due("reasons", Checks.reasons(x), "6:3<-6:-6");
        Checks.due("13 signs", Checks.ring(x, ".........."), -5);
        Checks.due("reasons", Checks.reasons(x), "4:13<-6:-6");
        Checks.due("the draft stays", x.account(7), 13);
        Checks.due("peals rung", x.account(3), 0);
        Checks.due("changes", x.account(9), 0);

        x = new DrownedBells();
        Checks.due("12 signs", Checks.ring(x, "cccccccccccc"), 9);
        Checks.due("a worn bell", Checks.ring(x, "c.cc"), -5);
        Checks.due("reasons", Checks.reasons(x), "6:4<-6:-6");
        Checks.due("bells silent", x.account(5), 3);
        x.lay('b');
        Checks.due("one bell that rings", x.ring(), 1);
    }

    private static void latestFive() {
        DrownedBells x = new DrownedBells();
        for (String signs : new String[] {"a", "bb", "ccc", "dddd", "eeeee", "ab.cd."}) {
            Checks.ring(x, signs);
        }
        String[] due = {"ab.cd.", "eeeee", "dddd", "ccc", "bb"};
        for (int peal = 0; peal < 5; peal++) {
            Checks.due("write", x.write(peal), due[peal].length());
            Checks.due("line", Checks.line(x), due[peal]);
        }
        Checks.due("write(5)", x.write(5), -1);
        Checks.due("peals kept", x.account(2), 5);
        Checks.due("peals rung", x.account(3), 6);
    }

    private static void duePeal(DrownedBells x, String signs, int parses) {
        Checks.ring(x, signs);
        Checks.due("parses of " + signs, x.parses(0), parses);
        Checks.due("parsesAgain of " + signs, x.parsesAgain(0), parses);
        Checks.lay(x, signs);
        Checks.due("draftParses of " + signs, x.draftParses(), parses);
        for (int bell = 0; bell < 5; bell++) {
            x.splice(bell);
        }
        x.ring();
    }

    private static void parses() {
        DrownedBells x = Checks.withBook();
        duePeal(x, "abc", 1);
        duePeal(x, "abcd", 1);
        duePeal(x, "ab..c.d...d", 1);
        duePeal(x, "abca.ed", 1);
        duePeal(x, "ab", 0);
        duePeal(x, "cab", 0);
        duePeal(x, "abcc", 0);
        duePeal(x, "dabc", 0);
        duePeal(x, "abab", 0);
        duePeal(x, ".abc", 0);
        duePeal(x, "abc.", 0);
        duePeal(x, "a.bc", 0);
        duePeal(x, "abca..e", 0);
        duePeal(x, "abce", 0);
        Checks.word(x, 2, "a");
        Checks.word(x, 2, "e");
        duePeal(x, "abca.e", 2);
        duePeal(x, "abcae", 1);
        duePeal(x, "aba.ec", 0);
        Checks.word(x, 1, "ca");
        duePeal(x, "abca", 2);
        Checks.due("parses(-1)", x.parses(-1), -1);
        Checks.due("parses(5)", x.parses(5), -1);
        Checks.due("parsesAgain(-1)", x.parsesAgain(-1), -1);
        Checks.due("parsesAgain(5)", x.parsesAgain(5), -1);
    }

    private static void parsesNow() {
        DrownedBells x = new DrownedBells();
        Checks.ring(x, "ab.c");
        Checks.due("without words", x.parses(0), 0);
        Checks.word(x, 0, "ab");
        Checks.word(x, 1, "c");
        Checks.due("with words", x.parses(0), 1);
        Checks.due("with words, again", x.parsesAgain(0), 1);
        Checks.due("a peal that is not kept", x.parses(1), -1);
        x.strike(0);
        Checks.due("after a strike", x.parses(0), 0);
    }

    private static void parsesAgainAlone() {
        DrownedBells x = Checks.withBook();
        Checks.word(x, 2, "a");
        Checks.word(x, 2, "e");
        Checks.ring(x, "ab");
        Checks.ring(x, "abca.e");
        Checks.ring(x, "ab.cd");
        int[] due = {1, 2, 0, -1};
        for (int peal = 0; peal < 4; peal++) {
            Checks.due("parsesAgain(" + peal + ")", x.parsesAgain(peal), due[peal]);
        }
        for (int peal = 3; peal >= 0; peal--) {
            Checks.due("parses(" + peal + ")", x.parses(peal), due[peal]);
        }
    }

    private static void draftParses() {
        DrownedBells x = Checks.withBook();
        Checks.due("an empty draft", x.draftParses(), 0);
        Checks.lay(x, "ab");
        Checks.due("ab", x.draftParses(), 0);
        Checks.lay(x, ".c");
        Checks.due("ab.c", x.draftParses(), 1);
        Checks.due("the draft stays", x.account(7), 4);
        x.lay('.');
        Checks.due("ab.c.", x.draftParses(), 0);
        Checks.lay(x, "da.ed.a.eddd...");
        Checks.due("20 signs, a silence at the end", x.draftParses(), 0);
        DrownedBells y = Checks.withBook();
        Checks.lay(y, "abcda.edda.edddda.ed");
        Checks.due("20 signs", y.draftParses(), 1);
    }

    private static void draftParsesMost() {
        DrownedBells x = new DrownedBells();
        Checks.word(x, 0, "b");
        Checks.word(x, 1, "c");
        for (String signs : new String[] {"a", "aa", "aaa", "aaaa"}) {
            Checks.word(x, 2, signs);
        }
        Checks.lay(x, "bc");
        int[] ways = {1, 1, 2, 4, 8, 15, 29, 56, 108, 208, 401, 773, 1490, 2872, 5536, 9999, 9999, 9999, 9999};
        for (int things = 0; things <= 18; things++) {
            Checks.due("draftParses", x.draftParses(), ways[things]);
            x.lay('a');
        }
    }

    private static void said() {
        DrownedBells x = Checks.withBook();
        Checks.ring(x, "ab.c");
        Checks.ring(x, "abcd.a.e");
        Checks.ring(x, "cc");
        int[] due = {0, 1, 3, 2, -1};
        for (int place = 0; place < 5; place++) {
            Checks.due("said(1, " + place + ")", x.said(1, place), due[place]);
        }
        Checks.due("said(1, -1)", x.said(1, -1), -1);
        Checks.due("said(2, 1)", x.said(2, 1), 1);
        Checks.due("said(2, 2)", x.said(2, 2), -1);
        Checks.due("said(0, 0)", x.said(0, 0), -6);
        Checks.due("said(0, -1)", x.said(0, -1), -6);
        Checks.due("said(3, 0)", x.said(3, 0), -1);
        Checks.due("said(-1, 0)", x.said(-1, 0), -1);
        Checks.word(x, 1, "cd");
        Checks.due("two parses", x.parses(1), 2);
        Checks.due("said of two parses", x.said(1, 0), -6);
        x.strike(1);
        Checks.due("the later words are less by 1", x.said(1, 1), 3);
        Checks.due("the later words are less by 1", x.said(1, 2), 1);
    }

    private static void silences() {
        DrownedBells x = Checks.withBook();
        Checks.ring(x, "abc");
        Checks.ring(x, "ab..c.a.e.d");
        Checks.ring(x, "c.c");
        Checks.due("silences(2)", x.silences(2), 0);
        Checks.due("silences(1)", x.silences(1), 4);
        Checks.due("silences(1) again", x.silences(1), 4);
        Checks.due("silences(0)", x.silences(0), -6);
        Checks.due("silences(3)", x.silences(3), -1);
        Checks.due("silences(-1)", x.silences(-1), -1);
    }

    private static void signOf() {
        DrownedBells x = new DrownedBells();
        Checks.ring(x, "a");
        Checks.ring(x, ".edcba");
        int[] due = {5, 4, 3, 2, 1, 0, -1};
        for (int place = 0; place < 7; place++) {
            Checks.due("signOf(0, " + place + ")", x.signOf(0, place), due[place]);
        }
        Checks.due("signOf(1, 0)", x.signOf(1, 0), 0);
        Checks.due("signOf(1, 1)", x.signOf(1, 1), -1);
        Checks.due("signOf(0, -1)", x.signOf(0, -1), -1);
        Checks.due("signOf(2, 0)", x.signOf(2, 0), -1);
        Checks.due("signOf(-1, 0)", x.signOf(-1, 0), -1);
        Checks.due("signOf(MAX, MAX)", x.signOf(Integer.MAX_VALUE, Integer.MAX_VALUE), -1);
    }

    private static void echoes() {
        DrownedBells x = new DrownedBells();
        Checks.word(x, 0, "ab");
        Checks.word(x, 1, "c");
        Checks.word(x, 2, "ac");
        Checks.word(x, 2, "b");
        Checks.ring(x, "ab..c");
        Checks.due("no echo so far", x.echoes(0, 12), 1);
        Checks.due("abb.c", x.echoes(0, 1), 0);
        Checks.due("abab c", x.echoes(0, 2), 0);
        Checks.ring(x, "abc....b");
        Checks.due("abcc...b", x.echoes(0, 1), 0);
        Checks.due("abc.bc.b", x.echoes(0, 3), 0);
        Checks.due("abc...ab", x.echoes(0, 6), 0);
        Checks.due("abc..b.b, the echo of b by 4", x.echoes(0, 12), 1);
        Checks.ring(x, "ab.c.");
        Checks.due("as it was rung", x.parses(0), 0);
        Checks.due("ab.cc", x.echoes(0, 1), 0);
        Checks.due("abac., by 2 the silence at the end stays", x.echoes(0, 2), 0);
        Checks.due("ab.cb", x.echoes(0, 3), 1);
        Checks.due("echoes(0, 0)", x.echoes(0, 0), -2);
        Checks.due("echoes(0, 13)", x.echoes(0, 13), -2);
        Checks.due("echoes(3, 0)", x.echoes(3, 0), -1);
        Checks.due("echoes(-1, 1)", x.echoes(-1, 1), -1);
        x.splice(1);
        Checks.ring(x, "abc.b...");
        Checks.due("echoes have no echoes: abcb b.b. by 2", x.echoes(0, 2), 0);
        Checks.ring(x, "abcb..");
        Checks.due("echoes have no echoes: abcbb. by 1", x.echoes(0, 1), 0);
    }

    private static void meantShare() {
        DrownedBells x = Checks.withBook();
        Checks.dueExactly("without peals", x.meantShare(), 0.0f);
        Checks.ring(x, "abc");
        Checks.dueExactly("1 of 1", x.meantShare(), 1.0f);
        Checks.ring(x, "cc");
        Checks.ring(x, "cb");
        Checks.dueExactly("1 of 3", x.meantShare(), 1.0f / 3.0f);
        Checks.word(x, 0, "a");
        Checks.word(x, 1, "bc");
        Checks.dueExactly("two parses mean nothing", x.meantShare(), 0.0f);
    }

    private static void write() {
        DrownedBells x = Checks.withBook();
        Checks.ring(x, "ab.cd");
        Checks.due("write(0)", x.write(0), 14);
        Checks.due("line", Checks.line(x), "ab.cd=n0 d1 t3");
        Checks.due("write(-1)", x.write(-1), -1);
        Checks.due("write(1)", x.write(1), -1);
        Checks.due("the line stays", Checks.line(x), "ab.cd=n0 d1 t3");
        Checks.ring(x, ".ab");
        Checks.due("write(0)", x.write(0), 3);
        Checks.due("line", Checks.line(x), ".ab");
        DrownedBells y = new DrownedBells();
        Checks.word(y, 0, "a");
        Checks.word(y, 1, "b");
        Checks.word(y, 2, "c");
        Checks.word(y, 2, "d");
        Checks.ring(y, "abcccccddddd");
        Checks.due("the longest line", y.write(0), 12 + 12 * 3);
        Checks.due("line", Checks.line(y), "abcccccddddd=n0 d1 t2 t2 t2 t2 t2 t3 t3 t3 t3 t3");
    }

    private static void written() {
        DrownedBells x = Checks.withBook();
        Checks.due("written(0) of no line", x.written(0), -1);
        x.writeBook();
        Checks.due("written(0)", x.written(0), 'n');
        Checks.due("written(1)", x.written(1), ':');
        Checks.due("written(17)", x.written(17), 'd');
        Checks.due("written(18)", x.written(18), -1);
        Checks.due("written(-1)", x.written(-1), -1);
        Checks.ring(x, "e");
        x.write(0);
        Checks.due("in place of the line before", Checks.line(x), "e");
        x.undo();
        Checks.due("the line is not undone", Checks.line(x), "e");
    }
}
