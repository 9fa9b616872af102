/** Promises 20, 21 and 22: what swimmers hear and understand. */
public final class HearingTest {
    public static void main(String[] args) {
        Checks.test("promise 20: hears", HearingTest::hears);
        Checks.test("promise 21: understands", HearingTest::understands);
        Checks.test("promise 21: misunderstands", HearingTest::misunderstands);
        Checks.test("promise 21: the same words at other places", HearingTest::sameWords);
        Checks.test("promise 22: needs", HearingTest::needs);
        Checks.close();
    }

    private static void hears() {
        DrownedBells x = new DrownedBells();
        x.hang(0, 3);
        x.hang(1, 5);
        x.hang(2, 8);
        x.swim(5, 2);
        x.swim(9, 0);
        Checks.ring(x, "abc.d");
        int[] due = {0, 1, 5, 5, 5, -1};
        for (int place = 0; place < 6; place++) {
            Checks.due("hears(0, 0, " + place + ")", x.hears(0, 0, place), due[place]);
        }
        Checks.due("hears(1, 0, 2)", x.hears(1, 0, 2), 5);
        x.dive(1, 8);
        Checks.due("as swimmers are now", x.hears(1, 0, 2), 2);
        x.hang(2, 7);
        Checks.due("as bells are now", x.hears(1, 0, 2), 5);
        Checks.due("as bells are now", x.hears(0, 0, 2), 2);
        Checks.due("hears(2, 0, 0)", x.hears(2, 0, 0), -1);
        Checks.due("hears(-1, 0, 0)", x.hears(-1, 0, 0), -1);
        Checks.due("hears(0, 1, 0)", x.hears(0, 1, 0), -1);
        Checks.due("hears(0, -1, 0)", x.hears(0, -1, 0), -1);
        Checks.due("hears(0, 0, -1)", x.hears(0, 0, -1), -1);
    }

    private static void understands() {
        DrownedBells x = Checks.withBook();
        x.hang(3, 9);
        x.swim(1, 8);
        x.swim(1, 7);
        Checks.ring(x, "abcd");
        Checks.ring(x, "ab");
        Checks.due("understands(0, 1)", x.understands(0, 1), 1);
        Checks.due("heard abc., which has no parse", x.understands(1, 1), 0);
        Checks.due("no sentence", x.understands(0, 0), 0);
        Checks.due("understands(2, 0)", x.understands(2, 0), -1);
        Checks.due("understands(-1, 0)", x.understands(-1, 0), -1);
        Checks.due("understands(0, 2)", x.understands(0, 2), -1);
        Checks.due("understands(0, -1)", x.understands(0, -1), -1);
        Checks.word(x, 0, "a");
        Checks.word(x, 1, "bc");
        Checks.due("two parses are not understood", x.understands(0, 1), 0);
    }

    private static void misunderstands() {
        DrownedBells x = Checks.withBook();
        x.hang(4, 9);
        x.swim(1, 1);
        x.swim(1, 9);
        Checks.ring(x, "abcedd");
        Checks.due("the peal itself has no parse", x.parses(0), 0);
        Checks.due("heard abc.dd", x.understands(0, 0), 2);
        Checks.due("heard whole", x.understands(1, 0), 0);
        Checks.word(x, 2, "e");
        Checks.due("other words: one is missing", x.understands(0, 0), 2);
        Checks.due("heard whole", x.understands(1, 0), 1);
        Checks.word(x, 2, "ed");
        Checks.due("the peal itself has two parses", x.parses(0), 2);
        Checks.due("heard abc.dd", x.understands(0, 0), 2);
        Checks.due("two parses are not misunderstood", x.understands(1, 0), 0);
        Checks.due("a misunderstood peal is not understood", x.swimmerOf(0, 3), 0);
    }

    private static void sameWords() {
        DrownedBells x = new DrownedBells();
        Checks.word(x, 0, "a");
        Checks.word(x, 1, "b");
        Checks.word(x, 2, "d");
        Checks.word(x, 2, "d.d");
        Checks.word(x, 2, "ded");
        x.hang(4, 9);
        x.swim(1, 1);
        Checks.ring(x, "abded");
        Checks.due("heard abd.d", x.understands(0, 0), 0);
        x.strike(2);
        Checks.due("as many words, but others", x.understands(0, 0), 2);
        x.strike(2);
        Checks.due("heard abd.d without d.d", x.understands(0, 0), 0);
    }

    private static void needs() {
        DrownedBells x = Checks.withBook();
        x.hang(2, 4);
        x.hang(3, 9);
        x.swim(3, 0);
        x.swim(5, 9);
        Checks.ring(x, "abcd");
        Checks.ring(x, "abc");
        Checks.ring(x, "ab");
        Checks.due("needs(0, 1)", x.needs(0, 1), 2);
        Checks.due("needs(1, 1)", x.needs(1, 1), 4);
        Checks.due("needs(0, 2)", x.needs(0, 2), 6);
        Checks.due("needs(1, 2)", x.needs(1, 2), 4);
        Checks.due("needs(0, 0)", x.needs(0, 0), -6);
        Checks.due("the reach stays", x.swimmerOf(0, 1), 0);
        Checks.due("needs(2, 0)", x.needs(2, 0), -1);
        Checks.due("needs(-1, 0)", x.needs(-1, 0), -1);
        Checks.due("needs(0, 3)", x.needs(0, 3), -1);
        x.hang(2, 1);
        x.dive(0, 1);
        Checks.due("a reach of 0", x.needs(0, 1), 0);
        x.dive(0, 9);
        Checks.due("a reach of 8", x.needs(0, 1), 8);
    }
}
