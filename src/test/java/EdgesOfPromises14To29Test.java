/** Promises 14 to 29: for each sentence that names a boundary case a test of its own, with the promise's number in its name. */
public final class EdgesOfPromises14To29Test extends Checks {
    private static final int LEAST = Integer.MIN_VALUE;
    private static final int MOST = Integer.MAX_VALUE;

    public static void main(String[] args) {
        parses();
        parsesAgain();
        draftParses();
        said();
        silences();
        signOf();
        hears();
        understands();
        needs();
        echoes();
        ranked();
        worn();
        listed();
        isCounted();
        means();
        close();
    }

    /** Two peals: 0 is "ab.cd", which means n0 d1 t3; 1 is "cc", which means nothing. */
    private static DrownedBells twoPeals() {
        DrownedBells x = withBook();
        ring(x, "cc");
        ring(x, "ab.cd");
        return x;
    }

    /** As many things as signs: of "bcaaa" each parting of the letters a is a parse. */
    private static DrownedBells manyParses() {
        return book("n:b", "d:c", "t:a", "t:aa", "t:aaa", "t:aaaa");
    }

    private static void parses() {
        test("promise 14: parses returns 0, 1, 2 and 4", () -> {
            DrownedBells x = manyParses();
            int[] due = {1, 1, 2, 4};
            for (int things = 0; things < 4; things++) {
                ring(x, "bc" + "a".repeat(things));
                due("parses(0)", x.parses(0), due[things]);
                spliceAll(x);
            }
            ring(x, "b");
            due("parses(0)", x.parses(0), 0);
        });
        test("promise 14: parses of a peal of 12 signs with 208 partings", () -> {
            DrownedBells x = book("n:b", "d:c", "t:a", "t:aa", "t:aaa", "t:aaaa", "t:d");
            ring(x, "bcaaaaaaaaad");
            due("parses(0)", x.parses(0), 208);
            due("parsesAgain(0)", x.parsesAgain(0), 208);
        });
        test("promise 14: parses of each peal that is kept, from 0 to 4", () -> {
            DrownedBells x = manyParses();
            for (String things : new String[] {"aaaa", "aaa", "aa", "a", ""}) {
                spliceAll(x);
                ring(x, "bc" + things);
            }
            int[] due = {1, 1, 2, 4, 8};
            for (int peal = 0; peal <= 4; peal++) {
                due("parses(" + peal + ")", x.parses(peal), due[peal]);
            }
        });
        test("promise 14: parses returns NONE if there is no such peal", () -> {
            due("of none", new DrownedBells().parses(0), -1);
            for (int peal : new int[] {-1, 2, 4, 5, LEAST, MOST}) {
                due("parses(" + peal + ")", twoPeals().parses(peal), -1);
            }
        });
    }

    private static void parsesAgain() {
        test("promise 15: parsesAgain returns 0, 1, 2 and 4", () -> {
            DrownedBells x = manyParses();
            int[] due = {1, 1, 2, 4};
            for (int things = 0; things < 4; things++) {
                ring(x, "bc" + "a".repeat(things));
                due("parsesAgain(0)", x.parsesAgain(0), due[things]);
                spliceAll(x);
            }
            ring(x, "b");
            due("parsesAgain(0)", x.parsesAgain(0), 0);
        });
        test("promise 15: parsesAgain of each peal that is kept, from 0 to 4", () -> {
            DrownedBells x = manyParses();
            for (String things : new String[] {"aaaa", "aaa", "aa", "a", ""}) {
                spliceAll(x);
                ring(x, "bc" + things);
            }
            int[] due = {1, 1, 2, 4, 8};
            for (int peal = 0; peal <= 4; peal++) {
                due("parsesAgain(" + peal + ")", x.parsesAgain(peal), due[peal]);
            }
        });
        test("promise 15: parsesAgain returns NONE if there is no such peal", () -> {
            due("of none", new DrownedBells().parsesAgain(0), -1);
            for (int peal : new int[] {-1, 2, 4, 5, LEAST, MOST}) {
                due("parsesAgain(" + peal + ")", twoPeals().parsesAgain(peal), -1);
            }
        });
        test("promise 15: parsesAgain and parses tell the same of silences at the beginning, at the end and within", () -> {
            for (String signs : new String[] {".abc", "abc.", "a.bc", "ab.c", "abca.e", "abca..e", "ab..c.d", "...a..."}) {
                DrownedBells x = withBook();
                ring(x, signs);
                due("parsesAgain of " + signs, x.parsesAgain(0), x.parses(0));
            }
        });
    }

    private static void draftParses() {
        test("promise 16: draftParses returns 0 for an empty draft, with words and without", () -> {
            due("without words", new DrownedBells().draftParses(), 0);
            due("with words", withBook().draftParses(), 0);
            DrownedBells x = withBook();
            ring(x, "abc");
            due("after a peal that means something", x.draftParses(), 0);
        });
        test("promise 16: draftParses returns 1 for a draft with one parse, and 2 for one with two", () -> {
            DrownedBells x = lay(manyParses(), "bca");
            due("bca", x.draftParses(), 1);
            x.lay('a');
            due("bcaa", x.draftParses(), 2);
        });
        test("promise 16: draftParses of more signs than a peal has, up to 20", () -> {
            DrownedBells x = lay(withBook(), "ab...c.....d");
            for (int signs = 13; signs <= 20; signs++) {
                x.lay('d');
                due("draftParses of " + signs, x.draftParses(), 1);
            }
        });
        test("promise 16: draftParses tells 9999 at most, and less exactly", () -> {
            DrownedBells x = lay(manyParses(), "bc");
            int[] due = {1, 1, 2, 4, 8, 15, 29, 56, 108, 208, 401, 773, 1490, 2872, 5536, 9999, 9999, 9999, 9999};
            for (int things = 0; things <= 18; things++) {
                due("draftParses of " + things + " things", x.draftParses(), due[things]);
                x.lay('a');
            }
        });
        test("promise 16: draftParses of 9999 partings is 0 if the end does not fit", () -> {
            DrownedBells x = lay(manyParses(), "bc" + "a".repeat(17) + "e");
            due("draftParses()", x.draftParses(), 0);
        });
        test("promise 16: draftParses is 0 if the draft begins or ends with a silence", () -> {
            due(".abc", lay(withBook(), ".abc").draftParses(), 0);
            due("abc.", lay(withBook(), "abc.").draftParses(), 0);
            due(".", lay(withBook(), ".").draftParses(), 0);
        });
        test("promise 16: draftParses does not care for worn ropes", () -> {
            DrownedBells x = withBook();
            ring(x, "ccccccccc");
            due("abc", lay(x, "abc").draftParses(), 1);
        });
    }

    private static void said() {
        test("promise 17: said returns each word of the parse, from place 0 on", () -> {
            DrownedBells x = withBook();
            ring(x, "abcda.ed");
            int[] due = {0, 1, 3, 2, 3};
            for (int place = 0; place < 5; place++) {
                due("said(0, " + place + ")", x.said(0, place), due[place]);
            }
        });
        test("promise 17: said returns the words of 12 signs, each a word", () -> {
            DrownedBells x = book("t:c", "t:d", "d:b", "n:a");
            ring(x, "abcdcdcdcdcd");
            for (int place = 0; place < 12; place++) {
                due("said(0, " + place + ")", x.said(0, place), place < 2 ? 3 - place : place % 2);
            }
            due("said(0, 12)", x.said(0, 12), -1);
        });
        test("promise 17: said returns NONE if there is no such place", () -> {
            for (int place : new int[] {-1, 3, 4, 12, LEAST, MOST}) {
                due("said(0, " + place + ")", twoPeals().said(0, place), -1);
            }
        });
        test("promise 17: said returns NONE if there is no such peal", () -> {
            due("of none", new DrownedBells().said(0, 0), -1);
            for (int peal : new int[] {-1, 2, 4, 5, LEAST, MOST}) {
                due("said(" + peal + ", 0)", twoPeals().said(peal, 0), -1);
            }
        });
        test("promise 17: said returns NOTHING, whatever place is told, of a peal without a parse", () -> {
            for (int place : new int[] {LEAST, -1, 0, 1, 2, 12, MOST}) {
                due("said(1, " + place + ")", twoPeals().said(1, place), -6);
            }
        });
        test("promise 17: said returns NOTHING, whatever place is told, of a peal with two parses", () -> {
            DrownedBells x = manyParses();
            ring(x, "bcaa");
            for (int place : new int[] {LEAST, -1, 0, 1, 2, 12, MOST}) {
                due("said(0, " + place + ")", x.said(0, place), -6);
            }
        });
        test("promise 17: said does not take a word that begins alike but leaves no parse", () -> {
            DrownedBells x = book("n:a", "n:ab", "d:bc", "d:b", "t:de", "t:d");
            ring(x, "abcd");
            due("said", saying(x, 0), "0 2 5");
            ring(x, "abbde");
            due("said", saying(x, 0), "1 3 4");
        });
    }

    private static void silences() {
        test("promise 18: silences returns how many stand between words, from 0 to 10", () -> {
            DrownedBells x = book("n:a", "d:b");
            for (int many = 0; many <= 10; many++) {
                spliceAll(x);
                ring(x, "a" + ".".repeat(many) + "b");
                due("silences(0)", x.silences(0), many);
            }
        });
        test("promise 18: silences counts none within a word", () -> {
            DrownedBells x = book("n:a..b", "d:c.d");
            ring(x, "a..b.c.d");
            due("silences(0)", x.silences(0), 1);
            ring(x, "a..bc.d");
            due("silences(0)", x.silences(0), 0);
        });
        test("promise 18: silences counts bells that fell silent between words", () -> {
            DrownedBells x = book("n:a", "d:b");
            ring(x, "eeeeeeeee");
            ring(x, "ae.b");
            due("silences(0)", x.silences(0), 2);
        });
        test("promise 18: silences returns NONE if there is no such peal", () -> {
            due("of none", new DrownedBells().silences(0), -1);
            for (int peal : new int[] {-1, 2, 4, 5, LEAST, MOST}) {
                due("silences(" + peal + ")", twoPeals().silences(peal), -1);
            }
        });
        test("promise 18: silences returns NOTHING if a peal has no parse, or two", () -> {
            due("no parse", twoPeals().silences(1), -6);
            DrownedBells x = manyParses();
            ring(x, "b.c.aa");
            due("two parses", x.silences(0), -6);
        });
    }

    private static void signOf() {
        test("promise 19: signOf returns each bell, and 5 for a silence", () -> {
            DrownedBells x = new DrownedBells();
            ring(x, "abcde.");
            for (int place = 0; place <= 5; place++) {
                due("signOf(0, " + place + ")", x.signOf(0, place), place);
            }
        });
        test("promise 19: signOf returns 5 for a bell that fell silent", () -> {
            DrownedBells x = new DrownedBells();
            ring(x, "aaaaaaaaaa");
            due("signOf(0, 8)", x.signOf(0, 8), 0);
            due("signOf(0, 9)", x.signOf(0, 9), 5);
        });
        test("promise 19: signOf returns the first and the last sign of 12, of the peals 0 and 4", () -> {
            DrownedBells x = new DrownedBells();
            for (String signs : new String[] {"a..........b", "c", "d", "e", "b..........c"}) {
                ring(x, signs);
            }
            due("signOf(0, 0)", x.signOf(0, 0), 1);
            due("signOf(0, 11)", x.signOf(0, 11), 2);
            due("signOf(0, 12)", x.signOf(0, 12), -1);
            due("signOf(4, 0)", x.signOf(4, 0), 0);
            due("signOf(4, 11)", x.signOf(4, 11), 1);
            due("signOf(4, 12)", x.signOf(4, 12), -1);
        });
        test("promise 19: signOf returns NONE if there is no such peal", () -> {
            due("of none", new DrownedBells().signOf(0, 0), -1);
            for (int peal : new int[] {-1, 2, 4, 5, LEAST, MOST}) {
                due("signOf(" + peal + ", 0)", twoPeals().signOf(peal, 0), -1);
            }
        });
        test("promise 19: signOf returns NONE if there is no such place", () -> {
            for (int place : new int[] {-1, 5, 11, 12, LEAST, MOST}) {
                due("signOf(0, " + place + ")", twoPeals().signOf(0, place), -1);
            }
            due("signOf(1, 2)", twoPeals().signOf(1, 2), -1);
        });
        test("promise 19: signOf returns NONE beside each peal, also where signs of another one could lie", () -> {
            DrownedBells x = new DrownedBells();
            for (int peal = 0; peal < 5; peal++) {
                ring(x, "abcdeabcdeab");
                spliceAll(x);
            }
            for (int peal = 0; peal < 5; peal++) {
                for (int place : new int[] {-1, -12, -13, 12, 13, 24}) {
                    due("signOf(" + peal + ", " + place + ")", x.signOf(peal, place), -1);
                }
            }
            due("signOf(-1, 12)", x.signOf(-1, 12), -1);
            due("signOf(5, -1)", x.signOf(5, -1), -1);
        });
    }

    private static void hears() {
        test("promise 20: hears returns each bell that is heard, and 5 for each other one and for silences", () -> {
            DrownedBells x = new DrownedBells();
            x.hang(1, 3);
            x.hang(3, 3);
            x.swim(1, 1);
            x.swim(3, 1);
            ring(x, "abcde.");
            due("heard from 1", heard(x, 0, 0), "a.c.e.");
            due("heard from 3", heard(x, 1, 0), ".b.d..");
            due("hears(0, 0, 1)", x.hears(0, 0, 1), 5);
            due("hears(1, 0, 1)", x.hears(1, 0, 1), 1);
        });
        test("promise 20: hears returns NONE if there is no such swimmer", () -> {
            DrownedBells x = twoPeals();
            due("of none", x.hears(0, 0, 0), -1);
            x.swim(1, 1);
            for (int swimmer : new int[] {-1, 1, 5, 6, LEAST, MOST}) {
                due("hears(" + swimmer + ", 0, 0)", x.hears(swimmer, 0, 0), -1);
            }
        });
        test("promise 20: hears returns NONE if there is no such peal", () -> {
            DrownedBells x = twoPeals();
            x.swim(1, 1);
            for (int peal : new int[] {-1, 2, 4, 5, LEAST, MOST}) {
                due("hears(0, " + peal + ", 0)", x.hears(0, peal, 0), -1);
            }
        });
        test("promise 20: hears returns NONE if there is no such place", () -> {
            DrownedBells x = twoPeals();
            x.swim(1, 1);
            for (int place : new int[] {-1, 5, 11, 12, LEAST, MOST}) {
                due("hears(0, 0, " + place + ")", x.hears(0, 0, place), -1);
            }
            due("hears(0, 0, 4)", x.hears(0, 0, 4), 3);
        });
        test("promise 20: hears returns NONE beside each peal, also where signs of another one could lie", () -> {
            DrownedBells x = new DrownedBells();
            x.swim(1, 9);
            for (int peal = 0; peal < 5; peal++) {
                ring(x, "abcdeabcdeab");
                spliceAll(x);
            }
            for (int peal = 0; peal < 5; peal++) {
                for (int place : new int[] {-1, -12, -13, 12, 13, 24}) {
                    due("hears(0, " + peal + ", " + place + ")", x.hears(0, peal, place), -1);
                }
            }
        });
    }

    private static void understands() {
        test("promise 21: understands returns 1 if this one understands it", () -> {
            DrownedBells x = twoPeals();
            x.swim(1, 0);
            due("understands(0, 0)", x.understands(0, 0), 1);
        });
        test("promise 21: understands returns 2 if this one misunderstands it", () -> {
            DrownedBells x = withBook();
            x.hang(4, 9);
            x.swim(1, 7);
            ring(x, "abcde");
            due("understands(0, 0)", x.understands(0, 0), 0);
            ring(x, "abced");
            due("understands(0, 0)", x.understands(0, 0), 2);
        });
        test("promise 21: understands returns 0 if what is heard has no parse, or two", () -> {
            DrownedBells x = twoPeals();
            x.swim(1, 0);
            due("no parse", x.understands(0, 1), 0);
            x.hang(2, 9);
            due("heard ab..d", x.understands(0, 0), 0);
            DrownedBells y = manyParses();
            y.swim(1, 0);
            ring(y, "bcaa");
            due("two parses", y.understands(0, 0), 0);
        });
        test("promise 21: understands of the reach at which the last bell is heard, and of 1 less", () -> {
            DrownedBells x = withBook();
            x.hang(2, 9);
            x.swim(1, 8);
            x.swim(1, 7);
            ring(x, "abc");
            due("by 8", x.understands(0, 0), 1);
            due("by 7", x.understands(1, 0), 0);
        });
        test("promise 21: understands returns NONE if there is no such swimmer", () -> {
            DrownedBells x = twoPeals();
            due("of none", x.understands(0, 0), -1);
            x.swim(1, 1);
            for (int swimmer : new int[] {-1, 1, 5, 6, LEAST, MOST}) {
                due("understands(" + swimmer + ", 0)", x.understands(swimmer, 0), -1);
            }
        });
        test("promise 21: understands returns NONE if there is no such peal", () -> {
            DrownedBells x = twoPeals();
            x.swim(1, 1);
            for (int peal : new int[] {-1, 2, 4, 5, LEAST, MOST}) {
                due("understands(0, " + peal + ")", x.understands(0, peal), -1);
            }
        });
    }

    private static void needs() {
        test("promise 22: needs returns each reach from 0 to 8, up and down", () -> {
            for (int depth = 1; depth <= 9; depth++) {
                DrownedBells x = withBook();
                x.swim(depth, 9);
                ring(x, "abc");
                due("needs from " + depth, x.needs(0, 0), depth - 1);
                for (int bell = 0; bell <= 2; bell++) {
                    x.hang(bell, 9);
                }
                due("needs from " + depth, x.needs(0, 0), 9 - depth);
            }
        });
        test("promise 22: needs returns 0 at the depth of all its bells", () -> {
            DrownedBells x = withBook();
            x.swim(1, 0);
            ring(x, "abc");
            due("needs(0, 0)", x.needs(0, 0), 0);
        });
        test("promise 22: needs goes by the bell of the peal that is farthest off", () -> {
            DrownedBells x = withBook();
            x.hang(0, 3);
            x.hang(1, 8);
            x.hang(2, 4);
            x.hang(4, 9);
            x.swim(5, 0);
            ring(x, "abc");
            due("needs(0, 0)", x.needs(0, 0), 3);
        });
        test("promise 22: needs does not go by the reach that this one has", () -> {
            DrownedBells x = withBook();
            x.hang(2, 4);
            x.swim(1, 0);
            x.swim(1, 9);
            ring(x, "abc");
            due("needs(0, 0)", x.needs(0, 0), 3);
            due("needs(1, 0)", x.needs(1, 0), 3);
            due("the reach stays", x.swimmerOf(0, 1), 0);
            due("the reach stays", x.swimmerOf(1, 1), 9);
        });
        test("promise 22: needs is no reach by which the peal would be misunderstood", () -> {
            DrownedBells x = book("n:a", "d:b", "t:c");
            x.hang(2, 7);
            x.swim(1, 0);
            ring(x, "abc");
            ring(x, "ab");
            due("needs(0, 1)", x.needs(0, 1), 6);
            DrownedBells y = book("n:a", "d:b", "t:c", "t:d");
            y.hang(2, 7);
            y.swim(1, 0);
            ring(y, "abcd");
            due("misunderstood by 0", y.understands(0, 0), 2);
            due("needs(0, 0)", y.needs(0, 0), 6);
        });
        test("promise 22: needs returns NOTHING if there is no reach from 0 to 9", () -> {
            DrownedBells x = twoPeals();
            x.swim(1, 9);
            due("a peal without a parse", x.needs(0, 1), -6);
            DrownedBells y = manyParses();
            y.swim(1, 9);
            ring(y, "bcaa");
            due("a peal with two parses", y.needs(0, 0), -6);
        });
        test("promise 22: needs returns NOTHING if the peal can be misunderstood alone", () -> {
            DrownedBells x = book("n:a", "d:b");
            x.hang(4, 9);
            x.swim(1, 0);
            ring(x, "aeb");
            due("understands(0, 0)", x.understands(0, 0), 2);
            due("needs(0, 0)", x.needs(0, 0), -6);
        });
        test("promise 22: needs returns NONE if there is no such swimmer", () -> {
            DrownedBells x = twoPeals();
            due("of none", x.needs(0, 0), -1);
            x.swim(1, 1);
            for (int swimmer : new int[] {-1, 1, 5, 6, LEAST, MOST}) {
                due("needs(" + swimmer + ", 0)", x.needs(swimmer, 0), -1);
            }
        });
        test("promise 22: needs returns NONE if there is no such peal", () -> {
            DrownedBells x = twoPeals();
            x.swim(1, 1);
            for (int peal : new int[] {-1, 2, 4, 5, LEAST, MOST}) {
                due("needs(0, " + peal + ")", x.needs(0, peal), -1);
            }
        });
    }

    private static void echoes() {
        test("promise 23: echoes returns how many parses, 0, 1, 2 and more", () -> {
            DrownedBells x = manyParses();
            ring(x, "bca.");
            due("bcaa", x.echoes(0, 1), 2);
            due("bcac", x.echoes(0, 2), 0);
            due("bca.", x.echoes(0, 4), 0);
            ring(x, "bca.aaaa.");
            due("bcaaaaaaa", x.echoes(0, 1), 56);
            due("as it was rung", x.parses(0), 0);
        });
        test("promise 23: echoes is asked of each peal that is kept", () -> {
            DrownedBells x = manyParses();
            for (String signs : new String[] {"bca.", "bca..", "bc", "bca", "bcaa."}) {
                ring(x, signs);
            }
            int[] due = {4, 1, 1, 0, 2};
            for (int peal = 0; peal <= 4; peal++) {
                due("echoes(" + peal + ", 1)", x.echoes(peal, 1), due[peal]);
            }
        });
        test("promise 23: echoes takes 1 and 12", () -> {
            DrownedBells x = withBook();
            ring(x, "ab.c");
            due("echoes(0, 1)", x.echoes(0, 1), 0);
            due("echoes(0, 12)", x.echoes(0, 12), 1);
        });
        test("promise 23: echoes returns BAD by less than 1 and by more than 12", () -> {
            for (int by : new int[] {0, -1, 13, LEAST, MOST}) {
                due("echoes(0, " + by + ")", twoPeals().echoes(0, by), -2);
            }
        });
        test("promise 23: echoes returns NONE if there is no such peal", () -> {
            due("of none", new DrownedBells().echoes(0, 1), -1);
            for (int peal : new int[] {-1, 2, 4, 5, LEAST, MOST}) {
                due("echoes(" + peal + ", 1)", twoPeals().echoes(peal, 1), -1);
            }
        });
        test("promise 23: echoes returns NONE ahead of BAD", () -> {
            due("echoes(2, 0)", twoPeals().echoes(2, 0), -1);
            due("echoes(-1, 13)", twoPeals().echoes(-1, 13), -1);
        });
        test("promise 23: echoes leaves the peal as it was rung", () -> {
            DrownedBells x = withBook();
            ring(x, "ab.c");
            x.echoes(0, 1);
            due("peal", peal(x, 0), "ab.c");
            due("parses", x.parses(0), 1);
        });
    }

    private static void dueOrder(String name, int[] answers, int... order) {
        for (int place = 0; place < order.length; place++) {
            due(name + "(" + place + ")", answers[place], order[place]);
        }
    }

    private static int[] allRanked(DrownedBells x) {
        int[] order = new int[7];
        for (int place = 0; place < 7; place++) {
            order[place] = x.ranked(place);
        }
        return order;
    }

    private static void ranked() {
        test("promise 24: ranked tells who understands most first, from 5 peals to none", () -> {
            DrownedBells x = book("n:a", "d:b", "t:c", "t:d", "t:e");
            x.hang(2, 3);
            x.hang(3, 5);
            x.hang(4, 7);
            for (int reach : new int[] {9, 6, 4, 2, 1}) {
                x.swim(1, reach);
            }
            x.swim(9, 0);
            for (String signs : new String[] {"ab", "abc", "abcd", "abcde", "ab.c"}) {
                ring(x, signs);
            }
            for (int swimmer = 0; swimmer < 6; swimmer++) {
                due("understood by " + swimmer, x.swimmerOf(swimmer, 3), new int[] {5, 5, 4, 3, 1, 0}[swimmer]);
            }
            dueOrder("ranked", allRanked(x), 1, 0, 2, 3, 4, 5, -1);
        });
        test("promise 24: of several who understand as many, the one with the lesser reach comes first", () -> {
            DrownedBells x = new DrownedBells();
            for (int reach : new int[] {9, 0, 5, 4, 6, 1}) {
                x.swim(5, reach);
            }
            dueOrder("ranked", allRanked(x), 1, 5, 3, 2, 4, 0, -1);
        });
        test("promise 24: of several with the same reach, too, the lowest comes first", () -> {
            DrownedBells x = new DrownedBells();
            for (int swimmer = 0; swimmer < 6; swimmer++) {
                x.swim(9 - swimmer, 3);
            }
            dueOrder("ranked", allRanked(x), 0, 1, 2, 3, 4, 5, -1);
        });
        test("promise 24: a greater reach is behind more peals, of 1 more", () -> {
            DrownedBells x = withBook();
            ring(x, "abc");
            x.swim(2, 0);
            x.swim(2, 9);
            dueOrder("ranked", allRanked(x), 1, 0, -1, -1, -1, -1, -1);
        });
        test("promise 24: peals that are misunderstood do not count", () -> {
            DrownedBells x = book("n:a", "d:b");
            x.hang(4, 9);
            x.swim(1, 9);
            x.swim(1, 8);
            x.swim(1, 0);
            ring(x, "aeb");
            dueOrder("ranked", allRanked(x), 2, 1, 0, -1, -1, -1, -1);
        });
        test("promise 24: ranked returns NONE if there is no such place", () -> {
            DrownedBells x = new DrownedBells();
            due("of none", x.ranked(0), -1);
            x.swim(1, 1);
            x.swim(1, 1);
            for (int place : new int[] {-1, 2, 5, 6, LEAST, MOST}) {
                due("ranked(" + place + ")", x.ranked(place), -1);
            }
        });
    }

    private static int[] allWorn(DrownedBells x) {
        int[] order = new int[6];
        for (int place = 0; place < 6; place++) {
            order[place] = x.worn(place);
        }
        return order;
    }

    private static void worn() {
        test("promise 25: worn tells the most worn first, from 9 to 0", () -> {
            DrownedBells x = new DrownedBells();
            ring(x, "bbbbbbbbb");
            ring(x, "cccccccc");
            ring(x, "eeeea");
            dueOrder("worn", allWorn(x), 1, 2, 4, 0, 3, -1);
        });
        test("promise 25: of several as worn, the deeper one comes first", () -> {
            DrownedBells x = new DrownedBells();
            x.hang(0, 2);
            x.hang(1, 9);
            x.hang(3, 5);
            x.hang(4, 8);
            dueOrder("worn", allWorn(x), 1, 4, 3, 0, 2, -1);
        });
        test("promise 25: of several as worn and as deep, the lowest comes first", () -> {
            DrownedBells x = new DrownedBells();
            dueOrder("worn", allWorn(x), 0, 1, 2, 3, 4, -1);
            for (int bell = 0; bell <= 4; bell++) {
                x.hang(bell, 9);
            }
            ring(x, "edcba");
            dueOrder("worn", allWorn(x), 0, 1, 2, 3, 4, -1);
        });
        test("promise 25: a bell that is worn by 1 more is ahead of a deeper one", () -> {
            DrownedBells x = new DrownedBells();
            x.hang(0, 9);
            ring(x, "aee");
            dueOrder("worn", allWorn(x), 4, 0, 1, 2, 3, -1);
        });
        test("promise 25: a rope that is spliced falls behind", () -> {
            DrownedBells x = new DrownedBells();
            ring(x, "aabbbcd");
            x.splice(1);
            dueOrder("worn", allWorn(x), 0, 2, 3, 1, 4, -1);
        });
        test("promise 25: worn returns NONE if there is no such place", () -> {
            for (int place : new int[] {-1, 5, LEAST, MOST}) {
                due("worn(" + place + ")", new DrownedBells().worn(place), -1);
            }
        });
    }

    private static int[] allListed(DrownedBells x) {
        int[] order = new int[9];
        for (int place = 0; place < 9; place++) {
            order[place] = x.listed(place);
        }
        return order;
    }

    private static void listed() {
        test("promise 26: listed goes by the alphabet, a to e", () ->
            dueOrder("listed", allListed(book("n:e", "n:d", "n:c", "n:b", "n:a")), 4, 3, 2, 1, 0, -1, -1, -1, -1));
        test("promise 26: listed goes by the first sign that is unlike, from the first to the fourth", () -> {
            DrownedBells x = book("n:bcda", "n:acdb", "n:adda", "n:acda", "n:acca", "n:abee");
            dueOrder("listed", allListed(x), 5, 4, 3, 1, 2, 0, -1, -1, -1);
        });
        test("promise 26: a silence comes ahead of each bell", () -> {
            DrownedBells x = book("n:aa", "n:a.e", "n:ae", "n:ab.a", "n:abaa", "n:a..a", "n:a.a");
            dueOrder("listed", allListed(x), 5, 6, 1, 0, 3, 4, 2, -1, -1);
        });
        test("promise 26: a word that begins another one comes ahead of it, also if the other goes on with a silence", () -> {
            DrownedBells x = book("n:a..b", "n:a.ba", "n:a.b", "n:abcd", "n:abc", "n:ab", "n:a");
            dueOrder("listed", allListed(x), 6, 0, 2, 1, 5, 4, 3, -1, -1);
        });
        test("promise 26: listed does not go by kinds, nor by numbers", () ->
            dueOrder("listed", allListed(book("n:c", "d:b", "t:a", "n:d")), 2, 1, 0, 3, -1, -1, -1, -1, -1));
        test("promise 26: listed tells all of 8 words, and tells less after a strike", () -> {
            DrownedBells x = book("n:ee", "d:e", "t:dd", "n:d", "d:cc", "t:c", "t:bb", "t:b");
            dueOrder("listed", allListed(x), 7, 6, 5, 4, 3, 2, 1, 0, -1);
            x.strike(3);
            dueOrder("listed", allListed(x), 6, 5, 4, 3, 2, 1, 0, -1, -1);
        });
        test("promise 26: listed returns NONE if there is no such place", () -> {
            due("of none", new DrownedBells().listed(0), -1);
            for (int place : new int[] {-1, 4, 7, 8, LEAST, MOST}) {
                due("listed(" + place + ")", withBook().listed(place), -1);
            }
        });
    }

    private static void isCounted() {
        test("promise 27: isCounted of a new village", () -> due("isCounted()", new DrownedBells().isCounted(), true));
        test("promise 27: isCounted of a full village", () -> {
            DrownedBells x = book("n:a", "n:ab", "d:b", "d:bc", "t:c", "t:cd", "t:d", "t:e");
            for (String signs : new String[] {"abcd", "abbccd", "a.b..cde", ".abc", "abc.", "cccccccccccc"}) {
                ring(x, signs);
                due("isCounted() after " + signs, x.isCounted(), true);
            }
            for (int words = 7; words >= 0; words--) {
                x.strike(words / 2);
                due("isCounted() by " + words + " words", x.isCounted(), true);
            }
        });
        test("promise 27: isCounted after bells fell silent, were spliced, and peals were undone and restored", () -> {
            DrownedBells x = new DrownedBells();
            ring(x, "aaaaaaaaaaaa");
            x.save();
            due("fallen silent", x.isCounted(), true);
            x.splice(0);
            ring(x, "aab");
            due("spliced", x.isCounted(), true);
            x.undo();
            due("undone", x.isCounted(), true);
            ring(x, "cde");
            x.restore();
            due("restored", x.isCounted(), true);
        });
    }

    private static void means() {
        test("promise 28: meanWear is 0.0 at first", () -> dueExactly("meanWear()", new DrownedBells().meanWear(), 0.0));
        test("promise 28: meanWear is 9.0 at most", () -> {
            DrownedBells x = new DrownedBells();
            for (char bell = 'a'; bell <= 'e'; bell++) {
                ring(x, String.valueOf(bell).repeat(12));
            }
            dueExactly("meanWear()", x.meanWear(), 9.0);
        });
        test("promise 28: meanWear is not rounded, of each sum from 1 to 12", () -> {
            for (int sum = 1; sum <= 12; sum++) {
                DrownedBells x = new DrownedBells();
                ring(x, "abcdeabcdeab".substring(0, sum));
                dueExactly("meanWear()", x.meanWear(), (double) sum / 5.0);
            }
        });
        test("promise 29: meantShare is 0.0f without peals", () ->
            dueExactly("meantShare()", withBook().meantShare(), 0.0f));
        test("promise 29: meantShare is 0.0f if none means something, and 1.0f if all do", () -> {
            DrownedBells x = withBook();
            ring(x, "ab");
            dueExactly("none", x.meantShare(), 0.0f);
            DrownedBells y = withBook();
            for (int peal = 0; peal < 5; peal++) {
                ring(y, "abc");
            }
            dueExactly("all", y.meantShare(), 1.0f);
        });
        test("promise 29: meantShare is a float's share, of 1 to 5 peals", () -> {
            DrownedBells x = withBook();
            ring(x, "abc");
            for (int peals = 2; peals <= 5; peals++) {
                ring(x, "e");
                dueExactly("1 of " + peals, x.meantShare(), 1.0f / (float) peals);
            }
            ring(x, "abc");
            dueExactly("1 of 5, the first one is not kept", x.meantShare(), 1.0f / 5.0f);
            ring(x, "abc");
            ring(x, "abc");
            dueExactly("3 of 5", x.meantShare(), 3.0f / 5.0f);
        });
        test("promise 29: meantShare counts no peal with two parses", () -> {
            DrownedBells x = manyParses();
            ring(x, "bcaa");
            ring(x, "bca");
            dueExactly("meantShare()", x.meantShare(), 0.5f);
        });
    }
}
