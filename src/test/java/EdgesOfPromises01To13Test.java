/** Promises 1 to 13: for each sentence that names a boundary case a test of its own, with the promise's number in its name. */
public final class EdgesOfPromises01To13Test extends Checks {
    private static final int LEAST = Integer.MIN_VALUE;
    private static final int MOST = Integer.MAX_VALUE;

    public static void main(String[] args) {
        newObject();
        hang();
        splice();
        lay();
        word();
        strike();
        swim();
        dive();
        go();
        ring();
        bellOf();
        bellOfCounts();
        wordOf();
        swimmerOf();
        close();
    }

    private static void newObject() {
        test("promise 1: a new village has no words", () -> {
            DrownedBells x = new DrownedBells();
            due("account(0)", x.account(0), 0);
            due("wordOf(0, 0)", x.wordOf(0, 0), -1);
            due("listed(0)", x.listed(0), -1);
            due("strike(0)", x.strike(0), -1);
            due("writeBook()", x.writeBook(), 0);
        });
        test("promise 1: a new village has no swimmers", () -> {
            DrownedBells x = new DrownedBells();
            due("account(1)", x.account(1), 0);
            due("swimmerOf(0, 0)", x.swimmerOf(0, 0), -1);
            due("ranked(0)", x.ranked(0), -1);
            due("go(0)", x.go(0), -1);
        });
        test("promise 1: a new village has no peals", () -> {
            DrownedBells x = new DrownedBells();
            due("account(2)", x.account(2), 0);
            due("account(3)", x.account(3), 0);
            due("parses(0)", x.parses(0), -1);
            due("signOf(0, 0)", x.signOf(0, 0), -1);
            due("write(0)", x.write(0), -1);
        });
        test("promise 1: a new village has five bells at 1 that never rang", () -> {
            DrownedBells x = new DrownedBells();
            for (int bell = 0; bell <= 4; bell++) {
                int[] numbers = {1, 0, 0, 0, 0};
                for (int what = 0; what <= 4; what++) {
                    due("bellOf(" + bell + ", " + what + ")", x.bellOf(bell, what), numbers[what]);
                }
            }
        });
    }

    private static void hang() {
        test("promise 2: hang returns the depth before, from 1 and from 9", () -> {
            DrownedBells x = new DrownedBells();
            due("hang(0, 9)", x.hang(0, 9), 1);
            due("hang(0, 8)", x.hang(0, 8), 9);
            due("hang(4, 2)", x.hang(4, 2), 1);
            due("hang(0, 1)", x.hang(0, 1), 8);
        });
        test("promise 2: hang returns NONE if there is no such bell", () -> {
            for (int bell : new int[] {-1, 5, LEAST, MOST}) {
                DrownedBells x = new DrownedBells();
                due("hang(" + bell + ", 2)", x.hang(bell, 2), -1);
                due("changes", x.account(9), 0);
            }
        });
        test("promise 2: hang returns BAD if the depth is less than 1 or more than 9", () -> {
            for (int depth : new int[] {0, 10, -1, LEAST, MOST}) {
                DrownedBells x = new DrownedBells();
                due("hang(0, " + depth + ")", x.hang(0, depth), -2);
                due("depth", x.bellOf(0, 0), 1);
            }
        });
        test("promise 2: hang returns NONE ahead of BAD", () -> due("hang(5, 10)", new DrownedBells().hang(5, 10), -1));
        test("promise 2: hang is refused for 2, at each depth", () -> {
            DrownedBells x = new DrownedBells();
            for (int depth = 1; depth <= 9; depth++) {
                x.hang(3, depth);
                dueRefused(x, "hang(3, " + depth + ")", x.hang(3, depth), "2:" + depth + "<-6:-6");
            }
        });
    }

    private static void splice() {
        test("promise 3: splice returns the wear before, from 1 to 9", () -> {
            DrownedBells x = new DrownedBells();
            for (int wear = 1; wear <= 9; wear++) {
                ring(x, "c".repeat(wear));
                due("splice(2)", x.splice(2), wear);
            }
        });
        test("promise 3: splice returns NONE if there is no such bell", () -> {
            for (int bell : new int[] {-1, 5, LEAST, MOST}) {
                DrownedBells x = new DrownedBells();
                due("splice(" + bell + ")", x.splice(bell), -1);
                due("reason", x.reason(0, false), -3);
            }
        });
        test("promise 3: splice is refused for 3, at first and the second time", () -> {
            DrownedBells x = new DrownedBells();
            dueRefused(x, "splice(4)", x.splice(4), "3:4<-6:-6");
            ring(x, "e");
            due("splice(4)", x.splice(4), 1);
            dueRefused(x, "splice(4)", x.splice(4), "3:4<-6:-6");
        });
    }

    private static void lay() {
        test("promise 4: lay returns how many signs there are then, from 1 to 20", () -> {
            DrownedBells x = new DrownedBells();
            for (int many = 1; many <= 20; many++) {
                due("lay", x.lay("abcde.".charAt(many % 6)), many);
            }
        });
        test("promise 4: lay takes a, b, c, d, e and the point", () -> {
            for (char sign : "abcde.".toCharArray()) {
                due("lay('" + sign + "')", new DrownedBells().lay(sign), 1);
            }
        });
        test("promise 4: lay returns BAD for every other character", () -> {
            DrownedBells x = new DrownedBells();
            for (char sign = 0; sign <= 255; sign++) {
                if ("abcde.".indexOf(sign) < 0) {
                    due("lay of code " + (int) sign, x.lay(sign), -2);
                }
            }
            for (char sign : new char[] {'a' + 256, '.' + 256, 0x7fff, 0x8000, 0xffff, 0xff0e, 0x2e00, 0x6100}) {
                due("lay of code " + (int) sign, x.lay(sign), -2);
            }
            due("account(7)", x.account(7), 0);
        });
        test("promise 4: lay returns FULL if there are 20, also for a silence", () -> {
            DrownedBells x = lay(new DrownedBells(), "b".repeat(20));
            due("lay('b')", x.lay('b'), -4);
            due("lay('.')", x.lay('.'), -4);
            due("account(7)", x.account(7), 20);
        });
        test("promise 4: lay returns BAD ahead of FULL", () ->
            due("lay('f')", lay(new DrownedBells(), "b".repeat(20)).lay('f'), -2));
    }

    private static void word() {
        test("promise 5: word returns its number, from 0 to 7", () -> {
            DrownedBells x = new DrownedBells();
            String[] signs = {"a", "b", "c", "d", "e", "a.a", "bbb", "c..c"};
            for (int word = 0; word < 8; word++) {
                due("word", word(x, word % 3, signs[word]), word);
            }
        });
        test("promise 5: word returns the number behind the last one, after one was struck out", () -> {
            DrownedBells x = withBook();
            x.strike(0);
            due("word", word(x, 0, "ee"), 3);
        });
        test("promise 5: word returns BAD if the kind is less than 0 or more than 2", () -> {
            DrownedBells x = lay(new DrownedBells(), "a");
            for (int kind : new int[] {-1, 3, LEAST, MOST}) {
                due("word(" + kind + ")", x.word(kind), -2);
            }
            due("words", x.account(0), 0);
        });
        test("promise 5: word returns BAD ahead of each reason", () -> {
            DrownedBells x = book("n:a", "d:b", "t:c", "t:d", "t:e", "t:aa", "t:bb", "t:cc");
            due("4", x.word(3), -2);
            due("2 and 1", word(x, 3, "a"), -2);
            due("1", word(x, -1, "b"), -2);
            due("5", word(x, 3, "."), -2);
            due("reason", x.reason(0, false), -3);
        });
        test("promise 5: word is refused for 4", () -> {
            DrownedBells x = new DrownedBells();
            dueRefused(x, "no sign", x.word(2), "4:0<-6:-6");
            dueRefused(x, "5 signs", word(x, 2, "eeeee"), "4:5<-6:-6");
        });
        test("promise 5: word is refused for 5", () -> {
            DrownedBells x = new DrownedBells();
            dueRefused(x, ".", word(x, 2, "."), "5:0<-6:-6");
            x = new DrownedBells();
            dueRefused(x, "a..", word(x, 2, "a.."), "5:2<-6:-6");
        });
        test("promise 5: word is refused for 2", () -> {
            DrownedBells x = withBook();
            dueRefused(x, "c", word(x, 2, "c"), "2:1<-6:-6");
        });
        test("promise 5: word is refused for 1, and not for the 8th", () -> {
            DrownedBells x = book("n:a", "d:b", "t:c", "t:d", "t:e", "t:aa", "t:bb");
            due("the 8th", word(x, 2, "cc"), 7);
            dueRefused(x, "the 9th", word(x, 2, "dd"), "1:8<-6:-6");
            x.strike(7);
            due("the 8th again", x.word(2), 7);
        });
    }

    private static void strike() {
        test("promise 6: strike returns how many words there are then, from 7 to 0", () -> {
            DrownedBells x = book("n:a", "d:b", "t:c", "t:d", "t:e", "t:aa", "t:bb", "t:cc");
            for (int words = 7; words >= 0; words--) {
                due("strike", x.strike(words / 2), words);
            }
        });
        test("promise 6: strike returns NONE if there is no such word", () -> {
            DrownedBells x = withBook();
            for (int word : new int[] {-1, 4, 7, 8, LEAST, MOST}) {
                due("strike(" + word + ")", x.strike(word), -1);
            }
            due("words", x.account(0), 4);
        });
        test("promise 6: strike returns NONE of a book without words", () -> due("strike(0)", new DrownedBells().strike(0), -1));
    }

    private static void swim() {
        test("promise 7: swim returns the number of the swimmer, from 0 to 5", () -> {
            DrownedBells x = new DrownedBells();
            for (int swimmer = 0; swimmer < 6; swimmer++) {
                due("swim", x.swim(9 - swimmer, swimmer), swimmer);
                due("depth", x.swimmerOf(swimmer, 0), 9 - swimmer);
                due("reach", x.swimmerOf(swimmer, 1), swimmer);
            }
        });
        test("promise 7: swim takes the least and the most of depth and reach", () -> {
            DrownedBells x = new DrownedBells();
            due("swim(1, 0)", x.swim(1, 0), 0);
            due("swim(9, 9)", x.swim(9, 9), 1);
            due("swim(1, 9)", x.swim(1, 9), 2);
            due("swim(9, 0)", x.swim(9, 0), 3);
        });
        test("promise 7: swim returns BAD if the depth is less than 1 or more than 9", () -> {
            for (int depth : new int[] {0, 10, -1, LEAST, MOST}) {
                due("swim(" + depth + ", 1)", new DrownedBells().swim(depth, 1), -2);
            }
        });
        test("promise 7: swim returns BAD if the reach is less than 0 or more than 9", () -> {
            for (int reach : new int[] {-1, 10, LEAST, MOST}) {
                due("swim(1, " + reach + ")", new DrownedBells().swim(1, reach), -2);
            }
        });
        test("promise 7: swim is refused for 1, behind BAD", () -> {
            DrownedBells x = new DrownedBells();
            for (int swimmer = 0; swimmer < 6; swimmer++) {
                x.swim(1, 1);
            }
            due("swim(0, 1)", x.swim(0, 1), -2);
            due("reason", x.reason(0, false), -3);
            dueRefused(x, "swim(1, 1)", x.swim(1, 1), "1:6<-6:-6");
            due("swimmers", x.account(1), 6);
        });
    }

    private static void dive() {
        test("promise 8: dive returns the depth before, from 1 and from 9", () -> {
            DrownedBells x = new DrownedBells();
            x.swim(1, 3);
            due("dive(0, 9)", x.dive(0, 9), 1);
            due("dive(0, 1)", x.dive(0, 1), 9);
            due("the reach stays", x.swimmerOf(0, 1), 3);
        });
        test("promise 8: dive moves this swimmer alone", () -> {
            DrownedBells x = new DrownedBells();
            x.swim(1, 1);
            x.swim(2, 2);
            x.swim(3, 3);
            due("dive(1, 9)", x.dive(1, 9), 2);
            due("depth of 0", x.swimmerOf(0, 0), 1);
            due("depth of 1", x.swimmerOf(1, 0), 9);
            due("depth of 2", x.swimmerOf(2, 0), 3);
        });
        test("promise 8: dive returns NONE if there is no such swimmer", () -> {
            DrownedBells x = new DrownedBells();
            due("dive(0, 2) of none", x.dive(0, 2), -1);
            x.swim(1, 1);
            for (int swimmer : new int[] {-1, 1, 5, 6, LEAST, MOST}) {
                due("dive(" + swimmer + ", 2)", x.dive(swimmer, 2), -1);
            }
        });
        test("promise 8: dive returns BAD if the depth is less than 1 or more than 9", () -> {
            DrownedBells x = new DrownedBells();
            x.swim(4, 1);
            for (int depth : new int[] {0, 10, -1, LEAST, MOST}) {
                due("dive(0, " + depth + ")", x.dive(0, depth), -2);
            }
            due("depth", x.swimmerOf(0, 0), 4);
        });
        test("promise 8: dive returns NONE ahead of BAD", () -> due("dive(0, 0)", new DrownedBells().dive(0, 0), -1));
        test("promise 8: dive is refused for 2, at each depth", () -> {
            DrownedBells x = new DrownedBells();
            x.swim(5, 1);
            for (int depth = 1; depth <= 9; depth++) {
                x.dive(0, depth);
                dueRefused(x, "dive(0, " + depth + ")", x.dive(0, depth), "2:" + depth + "<-6:-6");
            }
        });
    }

    private static void go() {
        test("promise 9: go returns how many swimmers there are then, from 5 to 0", () -> {
            DrownedBells x = new DrownedBells();
            for (int swimmer = 0; swimmer < 6; swimmer++) {
                x.swim(1, 1);
            }
            for (int left = 5; left >= 0; left--) {
                due("go", x.go(left / 2), left);
            }
        });
        test("promise 9: go returns NONE if there is no such swimmer", () -> {
            DrownedBells x = new DrownedBells();
            due("go(0) of none", x.go(0), -1);
            x.swim(1, 1);
            for (int swimmer : new int[] {-1, 1, 5, 6, LEAST, MOST}) {
                due("go(" + swimmer + ")", x.go(swimmer), -1);
            }
            due("swimmers", x.account(1), 1);
        });
    }

    private static void ring() {
        test("promise 10: ring returns how many bells ring in it, from 1 to 12", () -> {
            for (int bells = 1; bells <= 12; bells++) {
                DrownedBells x = new DrownedBells();
                due("ring", ring(x, "abcdeabcdeab".substring(0, bells) + ".".repeat(12 - bells)), bells);
                due("account(4)", x.account(4), bells);
            }
        });
        test("promise 10: ring does not count bells that fall silent", () -> {
            DrownedBells x = new DrownedBells();
            due("9 of 12", ring(x, "aaaaaaaaaaaa"), 9);
            due("1 of 3", ring(x, "aab"), 1);
        });
        test("promise 10: ring is refused for 4, without signs", () -> {
            DrownedBells x = new DrownedBells();
            dueRefused(x, "ring()", x.ring(), "4:0<-6:-6");
        });
        test("promise 10: ring is refused for 4, by 13 signs, and not by 12", () -> {
            DrownedBells x = lay(new DrownedBells(), "abcdeabcdeabc");
            dueRefused(x, "13 signs", x.ring(), "4:13<-6:-6");
            due("12 signs", ring(new DrownedBells(), "abcdeabcdeab"), 12);
        });
        test("promise 10: ring is refused for 6", () -> {
            DrownedBells x = new DrownedBells();
            dueRefused(x, "12 silences", ring(x, "............"), "6:12<-6:-6");
            DrownedBells y = new DrownedBells();
            ring(y, "abbbbbbbbb");
            dueRefused(y, "a worn bell", ring(y, "b"), "6:1<-6:-6");
        });
    }

    private static void bellOf() {
        test("promise 11: bellOf 0 is the depth", () -> {
            DrownedBells x = new DrownedBells();
            for (int bell = 0; bell <= 4; bell++) {
                x.hang(bell, 9 - bell);
                due("bellOf(" + bell + ", 0)", x.bellOf(bell, 0), 9 - bell);
            }
        });
        test("promise 11: bellOf 1 is the wear, from 0 to 9", () -> {
            DrownedBells x = new DrownedBells();
            for (int wear = 0; wear <= 9; wear++) {
                due("bellOf(3, 1)", x.bellOf(3, 1), wear);
                ring(x, "d");
            }
            due("bellOf(3, 1)", x.bellOf(3, 1), 9);
        });
        test("promise 11: bellOf returns NONE if there is no such bell", () -> {
            for (int bell : new int[] {-1, 5, LEAST, MOST}) {
                due("bellOf(" + bell + ", 0)", new DrownedBells().bellOf(bell, 0), -1);
            }
        });
        test("promise 11: bellOf returns BAD if what is less than 0 or more than 4", () -> {
            for (int what : new int[] {-1, 5, LEAST, MOST}) {
                due("bellOf(0, " + what + ")", new DrownedBells().bellOf(0, what), -2);
            }
        });
        test("promise 11: bellOf returns NONE ahead of BAD", () -> due("bellOf(-1, 5)", new DrownedBells().bellOf(-1, 5), -1));
    }

    private static void bellOfCounts() {
        test("promise 11: bellOf 2 is how often it rang so far, also behind peals that are not kept, and over splices", () -> {
            DrownedBells x = new DrownedBells();
            for (int peal = 1; peal <= 12; peal++) {
                ring(x, "bb");
                x.splice(1);
                due("bellOf(1, 2)", x.bellOf(1, 2), 2 * peal);
            }
            due("bellOf(0, 2)", x.bellOf(0, 2), 0);
        });
        test("promise 11: bellOf 2 counts no bell that fell silent", () -> {
            DrownedBells x = new DrownedBells();
            ring(x, "bbbbbbbbbbbb");
            due("bellOf(1, 2)", x.bellOf(1, 2), 9);
            ring(x, "ab");
            due("bellOf(1, 2)", x.bellOf(1, 2), 9);
        });
        test("promise 11: bellOf 3 is how many swimmers hear it, from 0 to 6", () -> {
            DrownedBells x = new DrownedBells();
            x.hang(2, 5);
            for (int swimmers = 0; swimmers <= 6; swimmers++) {
                due("bellOf(2, 3)", x.bellOf(2, 3), swimmers);
                x.swim(3 + 4 * (swimmers % 2), 2);
            }
            x.hang(2, 6);
            due("those at 7 alone", x.bellOf(2, 3), 3);
            due("none of another bell", x.bellOf(0, 3), 3);
        });
        test("promise 11: bellOf 3 is asked of bells that are worn, too", () -> {
            DrownedBells x = new DrownedBells();
            x.swim(1, 0);
            ring(x, "aaaaaaaaa");
            due("bellOf(0, 3)", x.bellOf(0, 3), 1);
        });
        test("promise 11: bellOf 4 is how many words have it, from 0 to 8, each once", () -> {
            DrownedBells x = new DrownedBells();
            String[] signs = {"a", "aa", "aaa", "aaaa", "ba", "b.a", "a..b", "cdea"};
            for (int words = 0; words < 8; words++) {
                due("bellOf(0, 4)", x.bellOf(0, 4), words);
                word(x, 0, signs[words]);
            }
            due("bellOf(0, 4)", x.bellOf(0, 4), 8);
            due("bellOf(1, 4)", x.bellOf(1, 4), 3);
            due("bellOf(4, 4)", x.bellOf(4, 4), 1);
            x.strike(7);
            due("bellOf(4, 4)", x.bellOf(4, 4), 0);
        });
    }

    private static void wordOf() {
        test("promise 12: wordOf 0 is the kind, from 0 to 2", () -> {
            DrownedBells x = book("t:a", "n:b", "d:c");
            due("a thing", x.wordOf(0, 0), 2);
            due("a name", x.wordOf(1, 0), 0);
            due("a deed", x.wordOf(2, 0), 1);
        });
        test("promise 12: wordOf 1 is how many signs it has, from 1 to 4", () -> {
            DrownedBells x = book("t:a", "n:ba", "d:c.c", "t:e..e");
            for (int word = 0; word < 4; word++) {
                due("wordOf(" + word + ", 1)", x.wordOf(word, 1), word + 1);
            }
        });
        test("promise 12: wordOf 2 is how many of them are silences, from 0 to 2", () -> {
            DrownedBells x = book("t:abcd", "n:a.cd", "d:ab.d", "t:e..e", "t:e");
            int[] silences = {0, 1, 1, 2, 0};
            for (int word = 0; word < 5; word++) {
                due("wordOf(" + word + ", 2)", x.wordOf(word, 2), silences[word]);
            }
        });
        test("promise 12: wordOf returns NONE if there is no such word", () -> {
            due("of none", new DrownedBells().wordOf(0, 0), -1);
            for (int word : new int[] {-1, 4, 7, 8, LEAST, MOST}) {
                due("wordOf(" + word + ", 0)", withBook().wordOf(word, 0), -1);
            }
        });
        test("promise 12: wordOf returns BAD if what is less than 0 or more than 2", () -> {
            for (int what : new int[] {-1, 3, LEAST, MOST}) {
                due("wordOf(0, " + what + ")", withBook().wordOf(0, what), -2);
            }
        });
        test("promise 12: wordOf returns NONE ahead of BAD", () -> due("wordOf(4, 3)", withBook().wordOf(4, 3), -1));
    }

    private static void swimmerOf() {
        test("promise 13: swimmerOf 0 and 1 are the depth and the reach", () -> {
            DrownedBells x = new DrownedBells();
            x.swim(9, 0);
            x.swim(1, 9);
            due("swimmerOf(0, 0)", x.swimmerOf(0, 0), 9);
            due("swimmerOf(0, 1)", x.swimmerOf(0, 1), 0);
            due("swimmerOf(1, 0)", x.swimmerOf(1, 0), 1);
            due("swimmerOf(1, 1)", x.swimmerOf(1, 1), 9);
        });
        test("promise 13: swimmerOf 2 is how many bells this one hears, from 0 to 5", () -> {
            for (int reach = 0; reach <= 9; reach++) {
                DrownedBells x = new DrownedBells();
                for (int bell = 1; bell <= 4; bell++) {
                    x.hang(bell, 1 + 2 * bell);
                }
                x.swim(1, reach);
                due("bells by " + reach, x.swimmerOf(0, 2), Math.min(5, 1 + reach / 2));
                x.dive(0, 2);
                due("bells by " + reach + " from 2", x.swimmerOf(0, 2), reach == 0 ? 0 : Math.min(5, 2 + (reach - 1) / 2));
            }
        });
        test("promise 13: swimmerOf 3 is how many of the peals that are kept this one understands, from 0 to 5", () -> {
            DrownedBells x = withBook();
            x.swim(1, 0);
            for (int peals = 0; peals <= 5; peals++) {
                due("swimmerOf(0, 3)", x.swimmerOf(0, 3), peals);
                spliceAll(x);
                ring(x, "abc" + "d".repeat(peals));
            }
            due("of 6 peals, of which 5 are kept", x.swimmerOf(0, 3), 5);
            ring(x, "e");
            due("of 5, of which one means nothing", x.swimmerOf(0, 3), 4);
        });
        test("promise 13: swimmerOf 3 counts no peal that is misunderstood", () -> {
            DrownedBells x = book("n:a", "d:b");
            x.hang(4, 9);
            x.swim(1, 0);
            ring(x, "aeb");
            due("understands(0, 0)", x.understands(0, 0), 2);
            due("swimmerOf(0, 3)", x.swimmerOf(0, 3), 0);
        });
        test("promise 13: swimmerOf returns NONE if there is no such swimmer", () -> {
            DrownedBells x = new DrownedBells();
            due("of none", x.swimmerOf(0, 0), -1);
            x.swim(1, 1);
            for (int swimmer : new int[] {-1, 1, 5, 6, LEAST, MOST}) {
                due("swimmerOf(" + swimmer + ", 0)", x.swimmerOf(swimmer, 0), -1);
            }
        });
        test("promise 13: swimmerOf returns BAD if what is less than 0 or more than 3", () -> {
            DrownedBells x = new DrownedBells();
            x.swim(1, 1);
            for (int what : new int[] {-1, 4, LEAST, MOST}) {
                due("swimmerOf(0, " + what + ")", x.swimmerOf(0, what), -2);
            }
        });
        test("promise 13: swimmerOf returns NONE ahead of BAD", () -> due("swimmerOf(0, 4)", new DrownedBells().swimmerOf(0, 4), -1));
    }
}
