/**
 * What it is, and Terms from "Bells" to "Echoes": for each sentence that names a boundary case a test of its own. The
 * name of the part stands in the test's name.
 */
public final class EdgesOfTermsTest extends Checks {
    private static final int LEAST = Integer.MIN_VALUE;
    private static final int MOST = Integer.MAX_VALUE;

    public static void main(String[] args) {
        whatItIs();
        bells();
        ropes();
        peals();
        book();
        sentences();
        sentencesThatMean();
        hearing();
        swimmers();
        echoes();
        close();
    }

    private static void whatItIs() {
        test("What it is: the 512th call of hang answers as the first ones", () -> {
            DrownedBells x = new DrownedBells();
            for (int call = 1; call <= 512; call++) {
                due("call " + call, x.hang(0, call % 2 == 1 ? 9 : 1), call % 2 == 1 ? 1 : 9);
            }
        });
        test("What it is: the 511th and the 512th call undo the changes of 510", () -> {
            DrownedBells x = new DrownedBells();
            for (int call = 1; call <= 510; call++) {
                due("hang", x.hang(4, call % 2 == 1 ? 9 : 1), call % 2 == 1 ? 1 : 9);
            }
            due("call 511", x.undo(), 7);
            due("call 512", x.undo(), 6);
        });
        test("What it is: 170 peals in 510 calls are all told", () -> {
            DrownedBells x = new DrownedBells();
            for (int peal = 0; peal < 170; peal++) {
                x.lay('c');
                due("ring", x.ring(), 1);
                due("splice", x.splice(2), 1);
            }
            due("call 511", x.account(3), 170);
            due("call 512", x.bellOf(2, 2), 170);
        });
        test("What it is: bells that rang, and fell silent, are all told after 512 calls", () -> {
            DrownedBells x = new DrownedBells();
            for (int peal = 0; peal < 36; peal++) {
                due("ring", ring(x, "eeeeeeeeeeee"), 9);
                x.splice(4);
            }
            due("account(4)", x.account(4), 36 * 9);
            due("account(5)", x.account(5), 36 * 3);
            due("isCounted()", x.isCounted(), true);
        });
        test("What it is: two objects have nothing in common", () -> {
            DrownedBells x = withBook();
            DrownedBells y = new DrownedBells();
            x.swim(1, 1);
            ring(x, "abc");
            x.save();
            due("words", y.account(0), 0);
            due("swimmers", y.account(1), 0);
            due("peals", y.account(2), 0);
            due("restore()", y.restore(), -3);
            due("words of the first one", x.account(0), 4);
        });
    }

    private static void bells() {
        test("Terms, Bells: a to e are numbered 0 to 4", () -> {
            DrownedBells x = new DrownedBells();
            ring(x, "abcde");
            for (int bell = 0; bell <= 4; bell++) {
                due("signOf(0, " + bell + ")", x.signOf(0, bell), bell);
                due("hang(" + bell + ", 2)", x.hang(bell, 2), 1);
            }
        });
        test("Terms, Bells: there is no bell -1 and no bell 5", () -> {
            DrownedBells x = new DrownedBells();
            for (int bell : new int[] {-1, 5, LEAST, MOST}) {
                due("hang(" + bell + ", 2)", x.hang(bell, 2), -1);
                due("splice(" + bell + ")", x.splice(bell), -1);
                due("bellOf(" + bell + ", 0)", x.bellOf(bell, 0), -1);
            }
        });
        test("Terms, Bells: each hangs at a depth from 1 to 9, no less and no more", () -> {
            for (int bell = 0; bell <= 4; bell++) {
                DrownedBells x = new DrownedBells();
                due("hang at 0", x.hang(bell, 0), -2);
                due("hang at 9", x.hang(bell, 9), 1);
                due("hang at 10", x.hang(bell, 10), -2);
                due("depth", x.bellOf(bell, 0), 9);
                due("hang at 1", x.hang(bell, 1), 9);
            }
        });
        test("Terms, Bells: each hangs at a depth of 1 at first", () -> {
            DrownedBells x = new DrownedBells();
            for (int bell = 0; bell <= 4; bell++) {
                due("bellOf(" + bell + ", 0)", x.bellOf(bell, 0), 1);
            }
        });
        test("Terms, Bells: a bell that is hung leaves the other ones", () -> {
            DrownedBells x = new DrownedBells();
            x.hang(2, 6);
            for (int bell = 0; bell <= 4; bell++) {
                due("bellOf(" + bell + ", 0)", x.bellOf(bell, 0), bell == 2 ? 6 : 1);
            }
        });
    }

    private static void ropes() {
        test("Terms, Bells: each rope has a wear of 0 at first", () -> {
            DrownedBells x = new DrownedBells();
            for (int bell = 0; bell <= 4; bell++) {
                due("bellOf(" + bell + ", 1)", x.bellOf(bell, 1), 0);
            }
        });
        test("Terms, Bells: the wear of a rope is 9 at most", () -> {
            for (int bell = 0; bell <= 4; bell++) {
                DrownedBells x = new DrownedBells();
                ring(x, String.valueOf((char) ('a' + bell)).repeat(12));
                due("wear after 12 pulls", x.bellOf(bell, 1), 9);
                ring(x, "abcde");
                due("wear after 13", x.bellOf(bell, 1), 9);
            }
        });
        test("Terms, Bells: to ring a bell wears its rope by 1, and no other", () -> {
            for (int bell = 0; bell <= 4; bell++) {
                DrownedBells x = new DrownedBells();
                ring(x, String.valueOf((char) ('a' + bell)));
                for (int other = 0; other <= 4; other++) {
                    due("wear of " + other, x.bellOf(other, 1), other == bell ? 1 : 0);
                }
            }
        });
        test("Terms, Bells: worn by 8 a bell rings, worn by 9 it does not", () -> {
            DrownedBells x = new DrownedBells();
            due("8 pulls", ring(x, "dddddddd"), 8);
            due("the 9th", ring(x, "d"), 1);
            due("the 10th", ring(x, "de"), 1);
            due("peal", peal(x, 0), ".e");
            due("how often d rang", x.bellOf(3, 2), 9);
        });
        test("Terms, Bells: to splice a rope makes its wear 0, from 1 and from 9, and no other's", () -> {
            DrownedBells x = new DrownedBells();
            ring(x, "abbbbbbbbbc");
            x.splice(0);
            x.splice(1);
            due("wear of a", x.bellOf(0, 1), 0);
            due("wear of b", x.bellOf(1, 1), 0);
            due("wear of c", x.bellOf(2, 1), 1);
            due("b rings again, nine times", ring(x, "bbbbbbbbbb"), 9);
        });
    }

    private static void peals() {
        test("Terms, Peals: a peal of 1 sign is rung", () -> {
            DrownedBells x = new DrownedBells();
            due("ring", ring(x, "e"), 1);
            due("peal", peal(x, 0), "e");
        });
        test("Terms, Peals: a peal of 12 signs is rung", () -> {
            DrownedBells x = new DrownedBells();
            due("ring", ring(x, ".abcdeabcde."), 10);
            due("peal", peal(x, 0), ".abcdeabcde.");
        });
        test("Terms, Peals: no peal has 0 signs", () -> {
            DrownedBells x = new DrownedBells();
            dueRefused(x, "ring()", x.ring(), "4:0<-6:-6");
            due("peals", x.account(2), 0);
        });
        test("Terms, Peals: no peal has 13 signs", () -> {
            DrownedBells x = new DrownedBells();
            dueRefused(x, "ring()", ring(x, "abcdeabcdeabc"), "4:13<-6:-6");
            due("peals", x.account(2), 0);
        });
        test("Terms, Peals: a silence is a sign, written as a point", () -> {
            DrownedBells x = new DrownedBells();
            due("lay", x.lay('.'), 1);
            x.lay('a');
            x.ring();
            due("signOf(0, 0)", x.signOf(0, 0), 5);
            due("written", pealLine(x, 0), ".a");
        });
        test("Terms, Peals: a bell that does not ring is a silence instead, at its place", () -> {
            DrownedBells x = new DrownedBells();
            ring(x, "aaaaaaaaa");
            ring(x, "abacad");
            due("peal", peal(x, 0), ".b.c.d");
        });
        test("Terms, Peals: the latest 5 are kept, a 6th is in place of the first one", () -> {
            DrownedBells x = new DrownedBells();
            String[] signs = {"a", "bb", "ccc", "dddd", "eeeee", "ab.cd."};
            for (int many = 1; many <= 6; many++) {
                ring(x, signs[many - 1]);
                due("peals kept of " + many, x.account(2), Math.min(many, 5));
                due("the oldest one", peal(x, Math.min(many, 5) - 1), signs[Math.max(0, many - 5)]);
                due("none behind it", x.signOf(Math.min(many, 5), 0), -1);
            }
        });
        test("Terms, Peals: they are numbered from 0, the latest one", () -> {
            DrownedBells x = new DrownedBells();
            ring(x, "a");
            ring(x, "b");
            ring(x, "cc");
            due("peal 0", peal(x, 0), "cc");
            due("peal 1", peal(x, 1), "b");
            due("peal 2", peal(x, 2), "a");
            due("peal 3", x.parses(3), -1);
        });
        test("Terms, Peals: they are kept as they were rung, also if ropes are spliced then", () -> {
            DrownedBells x = new DrownedBells();
            ring(x, "aaaaaaaaaaa");
            x.splice(0);
            due("peal", peal(x, 0), "aaaaaaaaa..");
        });
        test("Terms, Peals: a longer peal leaves nothing behind a shorter one", () -> {
            DrownedBells x = new DrownedBells();
            for (String signs : new String[] {"abcdeabcdeab", "a", "b", "c", "d", "ee"}) {
                ring(x, signs);
            }
            due("peal 0", peal(x, 0), "ee");
            due("peal 4", peal(x, 4), "a");
            due("signOf(4, 1)", x.signOf(4, 1), -1);
        });
    }

    private static void book() {
        test("Terms, The book: it has 8 words, and no 9th", () -> {
            DrownedBells x = book("n:a", "d:b", "t:c", "t:d", "t:e", "t:aa", "t:bb");
            due("the 8th", word(x, 2, "cc"), 7);
            due("words", x.account(0), 8);
            due("the 9th", word(x, 2, "dd"), -5);
            due("words", x.account(0), 8);
        });
        test("Terms, The book: words are numbered from 0", () -> {
            DrownedBells x = new DrownedBells();
            due("wordOf(0, 0) of no words", x.wordOf(0, 0), -1);
            for (int word = 0; word < 8; word++) {
                due("word", word(x, 1, "abcdeabcde".substring(word, word + 2 + word / 5)), word);
                due("wordOf", x.wordOf(word, 0), 1);
                due("none behind it", x.wordOf(word + 1, 0), -1);
            }
        });
        test("Terms, The book: after the first one is struck out, all later numbers become 1 less", () -> {
            DrownedBells x = withBook();
            x.strike(0);
            due("book", bookLine(x), "d:c t:a.e t:d");
        });
        test("Terms, The book: after one in the middle is struck out, the later numbers become 1 less", () -> {
            DrownedBells x = withBook();
            x.strike(2);
            due("book", bookLine(x), "n:ab d:c t:d");
        });
        test("Terms, The book: after the last one is struck out, no number changes", () -> {
            DrownedBells x = withBook();
            x.strike(3);
            due("book", bookLine(x), "n:ab d:c t:a.e");
        });
        test("Terms, The book: a word has 1 to 4 signs", () -> {
            DrownedBells x = new DrownedBells();
            due("no sign", x.word(0), -5);
            due("1 sign", word(x, 0, "a"), 0);
            due("4 signs", word(x, 0, "abcd"), 1);
            due("5 signs", word(x, 0, "abcde"), -5);
        });
        test("Terms, The book: a word has no silence at its beginning", () ->
            due(".ab", word(new DrownedBells(), 0, ".ab"), -5));
        test("Terms, The book: a word has no silence at its end", () ->
            due("ab.", word(new DrownedBells(), 0, "ab."), -5));
        test("Terms, The book: a word is no silence alone", () ->
            due(".", word(new DrownedBells(), 0, "."), -5));
        test("Terms, The book: a word can have silences within, one or two", () -> {
            DrownedBells x = new DrownedBells();
            due("a.b", word(x, 0, "a.b"), 0);
            due("a..b", word(x, 0, "a..b"), 1);
        });
        test("Terms, The book: a word's kind is 0, 1 or 2", () -> {
            DrownedBells x = lay(new DrownedBells(), "a");
            for (int kind : new int[] {-1, 3, LEAST, MOST}) {
                due("word(" + kind + ")", x.word(kind), -2);
            }
            for (int kind = 0; kind <= 2; kind++) {
                due("word(" + kind + ")", x.word(kind), kind);
                due("wordOf", x.wordOf(kind, 0), kind);
                x.lay((char) ('b' + kind));
            }
        });
        test("Terms, The book: no two words have the same signs, also of two kinds", () -> {
            DrownedBells x = book("n:a.b");
            due("a.b, a name", word(x, 0, "a.b"), -5);
            due("a.b, a deed", x.word(1), -5);
            due("a.b, a thing", x.word(2), -5);
            due("words", x.account(0), 1);
        });
        test("Terms, The book: words of which one begins the other are two", () -> {
            DrownedBells x = book("n:abc");
            due("ab", word(x, 0, "ab"), 1);
            due("abcd", word(x, 0, "abcd"), 2);
            due("ab.c", word(x, 0, "ab.c"), 3);
        });
        test("Terms, The book: a word that was struck out can come again", () -> {
            DrownedBells x = withBook();
            x.strike(1);
            due("c", word(x, 1, "c"), 3);
        });
    }

    private static void sentences() {
        test("What it is, Terms: a peal parsed is one sentence, two have no parse", () -> {
            dueParses(withBook(), "abcdabcd", 0);
            dueParses(withBook(), "abc.abc", 0);
        });
        test("Terms, Sentences: a sign that is in no word leaves no parse", () -> {
            dueParses(withBook(), "abce", 0);
            dueParses(withBook(), "eabc", 0);
            dueParses(withBook(), "abec", 0);
        });
        test("Terms, Sentences: no silence needs to stand between two words", () ->
            dueParses(withBook(), "abcdd", 1));
        test("Terms, Sentences: any number of silences can stand between two words", () -> {
            DrownedBells x = book("n:a", "d:b");
            for (int many = 0; many <= 10; many++) {
                spliceAll(x);
                dueParses(x, "a" + ".".repeat(many) + "b", 1);
            }
        });
        test("Terms, Sentences: a silence at which no word ends stands between no two words", () -> {
            dueParses(withBook(), "a.bc", 0);
            dueParses(withBook(), "abca..e", 0);
        });
        test("Terms, Sentences: a name alone is no sentence", () -> dueParses(withBook(), "ab", 0));
        test("Terms, Sentences: a deed alone is no sentence", () -> dueParses(withBook(), "c", 0));
        test("Terms, Sentences: a thing alone is no sentence", () -> dueParses(withBook(), "d", 0));
        test("Terms, Sentences: a name and a deed are one, without a thing", () -> dueParses(withBook(), "abc", 1));
        test("Terms, Sentences: a deed ahead of its name is none", () -> dueParses(withBook(), "cab", 0));
        test("Terms, Sentences: a thing ahead of the name, or of the deed, is none", () -> {
            dueParses(withBook(), "dabc", 0);
            dueParses(withBook(), "abdc", 0);
        });
        test("Terms, Sentences: two names, or two deeds, are none", () -> {
            dueParses(withBook(), "ababc", 0);
            dueParses(withBook(), "abcc", 0);
            dueParses(withBook(), "abcab", 0);
        });
        test("Terms, Sentences: a name and things without a deed are none", () -> dueParses(withBook(), "abdd", 0));
        test("Terms, Sentences: one thing or several, up to 10 of them", () -> {
            DrownedBells x = book("n:a", "d:b", "t:c", "t:d");
            for (int things = 1; things <= 10; things++) {
                spliceAll(x);
                dueParses(x, "ab" + "cdcdcdcdcd".substring(0, things), 1);
            }
        });
        test("Terms, Sentences: a book without words has no parse", () -> dueParses(new DrownedBells(), "abc", 0));
    }

    private static void sentencesThatMean() {
        test("Terms, Sentences: a peal without a parse means nothing", () -> {
            DrownedBells x = withBook();
            ring(x, "cab");
            due("parses", x.parses(0), 0);
            due("said(0, 0)", x.said(0, 0), -6);
            due("silences(0)", x.silences(0), -6);
            dueExactly("meantShare()", x.meantShare(), 0.0f);
        });
        test("Terms, Sentences: a peal with one parse alone means something", () -> {
            DrownedBells x = withBook();
            ring(x, "abc");
            due("parses", x.parses(0), 1);
            due("said", saying(x, 0), "0 1");
            due("silences(0)", x.silences(0), 0);
            dueExactly("meantShare()", x.meantShare(), 1.0f);
        });
        test("Terms, Sentences: a peal with two parses means nothing", () -> {
            DrownedBells x = book("n:a", "n:ab", "d:bc", "d:c");
            ring(x, "abc");
            due("parses", x.parses(0), 2);
            due("said(0, 0)", x.said(0, 0), -6);
            due("silences(0)", x.silences(0), -6);
            dueExactly("meantShare()", x.meantShare(), 0.0f);
        });
    }

    private static void hearing() {
        test("Terms, Hearing: a bell is heard if the depths differ by the reach, and not by 1 more", () -> {
            for (int bell = 1; bell <= 9; bell++) {
                for (int depth = 1; depth <= 9; depth++) {
                    DrownedBells x = new DrownedBells();
                    x.hang(1, bell);
                    ring(x, "b");
                    int apart = Math.abs(bell - depth);
                    x.swim(depth, apart);
                    due("heard at " + bell + " from " + depth, x.hears(0, 0, 0), 1);
                    due("bells heard", x.bellOf(1, 3), 1);
                    if (apart > 0) {
                        x.swim(depth, apart - 1);
                        due("not heard at " + bell + " from " + depth, x.hears(1, 0, 0), 5);
                        due("swimmers who hear it", x.bellOf(1, 3), 1);
                    }
                }
            }
        });
        test("Terms, Hearing: by a reach of 0 a swimmer hears the bells of the own depth alone", () -> {
            DrownedBells x = new DrownedBells();
            x.hang(0, 4);
            x.hang(1, 5);
            x.hang(2, 6);
            x.swim(5, 0);
            ring(x, "abc");
            due("heard", heard(x, 0, 0), ".b.");
        });
        test("Terms, Hearing: by a reach of 9 a swimmer hears every bell", () -> {
            DrownedBells x = new DrownedBells();
            x.hang(0, 9);
            x.swim(1, 9);
            x.swim(9, 9);
            ring(x, "abcde");
            due("heard from 1", heard(x, 0, 0), "abcde");
            due("heard from 9", heard(x, 1, 0), "abcde");
        });
        test("Terms, Hearing: each bell that is not heard is a silence, also if none is heard", () -> {
            DrownedBells x = new DrownedBells();
            x.swim(9, 7);
            ring(x, "ab.ba");
            due("heard", heard(x, 0, 0), ".....");
        });
        test("Terms, Hearing: a silence is heard as a silence", () -> {
            DrownedBells x = new DrownedBells();
            x.swim(1, 9);
            ring(x, ".a.");
            due("heard", heard(x, 0, 0), ".a.");
        });
        test("Terms, Hearing: what is heard, and the peal, mean the same words: understood", () -> {
            DrownedBells x = withBook();
            x.swim(1, 0);
            ring(x, "abcd");
            due("understands(0, 0)", x.understands(0, 0), 1);
        });
        test("Terms, Hearing: what is heard means something, the peal other words: misunderstood", () -> {
            DrownedBells x = book("n:a", "d:b", "t:c", "t:d.d", "t:ded");
            x.hang(4, 9);
            x.swim(1, 0);
            ring(x, "abded");
            due("the peal", saying(x, 0), "0 1 4");
            due("understands(0, 0)", x.understands(0, 0), 2);
        });
        test("Terms, Hearing: what is heard means something, the peal has no parse: misunderstood", () -> {
            DrownedBells x = book("n:a", "d:b");
            x.hang(4, 9);
            x.swim(1, 0);
            ring(x, "aeb");
            due("parses", x.parses(0), 0);
            due("understands(0, 0)", x.understands(0, 0), 2);
        });
        test("Terms, Hearing: what is heard means something, the peal has two parses: misunderstood", () -> {
            DrownedBells x = book("n:a", "d:b", "t:e", "t:ee", "t:c");
            x.hang(4, 9);
            x.swim(1, 0);
            ring(x, "abeec");
            due("parses", x.parses(0), 2);
            due("understands(0, 0)", x.understands(0, 0), 2);
        });
        test("Terms, Hearing: what is heard means nothing: neither, also if the peal means something", () -> {
            DrownedBells x = withBook();
            x.swim(9, 0);
            ring(x, "abc");
            due("parses", x.parses(0), 1);
            due("understands(0, 0)", x.understands(0, 0), 0);
        });
    }

    private static void swimmers() {
        test("Terms, Hearing: a swimmer is at a depth from 1 to 9, no less and no more", () -> {
            DrownedBells x = new DrownedBells();
            due("swim(0, 5)", x.swim(0, 5), -2);
            due("swim(1, 5)", x.swim(1, 5), 0);
            due("swim(9, 5)", x.swim(9, 5), 1);
            due("swim(10, 5)", x.swim(10, 5), -2);
            due("dive(0, 0)", x.dive(0, 0), -2);
            due("dive(0, 9)", x.dive(0, 9), 1);
            due("dive(0, 10)", x.dive(0, 10), -2);
            due("dive(0, 1)", x.dive(0, 1), 9);
        });
        test("Terms, Hearing: the reach is from 0 to 9, no less and no more", () -> {
            DrownedBells x = new DrownedBells();
            due("swim(5, -1)", x.swim(5, -1), -2);
            due("swim(5, 0)", x.swim(5, 0), 0);
            due("swim(5, 9)", x.swim(5, 9), 1);
            due("swim(5, 10)", x.swim(5, 10), -2);
        });
        test("Terms, Hearing: 6 swimmers are there, and no 7th", () -> {
            DrownedBells x = new DrownedBells();
            for (int swimmer = 0; swimmer < 6; swimmer++) {
                due("swim", x.swim(5, 5), swimmer);
            }
            due("a 7th", x.swim(5, 5), -5);
            due("swimmers", x.account(1), 6);
            x.go(0);
            due("another 6th", x.swim(5, 5), 5);
        });
        test("Terms, Hearing: swimmers are numbered from 0", () -> {
            DrownedBells x = new DrownedBells();
            due("swimmerOf(0, 0) of none", x.swimmerOf(0, 0), -1);
            x.swim(3, 4);
            due("swimmerOf(0, 0)", x.swimmerOf(0, 0), 3);
            due("swimmerOf(1, 0)", x.swimmerOf(1, 0), -1);
            due("swimmerOf(-1, 0)", x.swimmerOf(-1, 0), -1);
        });
        test("Terms, Hearing: when one goes, the numbers of the later ones become 1 less", () -> {
            for (int gone = 0; gone < 6; gone++) {
                DrownedBells x = new DrownedBells();
                for (int swimmer = 0; swimmer < 6; swimmer++) {
                    x.swim(1 + swimmer, 9 - swimmer);
                }
                due("go", x.go(gone), 5);
                for (int swimmer = 0; swimmer < 5; swimmer++) {
                    int before = swimmer < gone ? swimmer : swimmer + 1;
                    due("depth of " + swimmer, x.swimmerOf(swimmer, 0), 1 + before);
                    due("reach of " + swimmer, x.swimmerOf(swimmer, 1), 9 - before);
                }
                due("no 6th", x.swimmerOf(5, 0), -1);
            }
        });
    }

    private static void echoes() {
        test("Terms, Echoes: an echo is so many places behind its bell, by 2 to 10", () -> {
            for (int places = 2; places <= 10; places++) {
                DrownedBells x = book("n:c", "d:a", "t:ca");
                ring(x, "ca" + ".".repeat(places));
                for (int by = 1; by <= 12; by++) {
                    due("echoes by " + by, x.echoes(0, by), by == places ? 1 : 0);
                }
            }
        });
        test("Terms, Echoes: an echo by 1 is beside its bell", () -> {
            DrownedBells x = book("n:a", "d:bb");
            ring(x, "ab.");
            due("abb", x.echoes(0, 1), 1);
            due("aba", x.echoes(0, 2), 0);
        });
        test("Terms, Echoes: an echo by 11 is the last sign of 12, the first one's", () -> {
            DrownedBells x = book("n:a", "d:ba");
            ring(x, "a.........b.");
            due("by 11", x.echoes(0, 11), 1);
            due("by 10", x.echoes(0, 10), 0);
            due("by 12", x.echoes(0, 12), 0);
        });
        test("Terms, Echoes: by 12 no sign of 12 has an echo", () -> {
            DrownedBells x = book("n:a", "d:b");
            ring(x, "a..........b");
            due("the row itself", x.echoes(0, 12), 1);
            due("ab.........b, which is none", x.echoes(0, 11), 1);
        });
        test("Terms, Echoes: a sign that is a bell stays", () -> {
            DrownedBells x = book("n:a", "d:b", "t:c");
            ring(x, "abc");
            for (int by = 1; by <= 12; by++) {
                due("abc by " + by, x.echoes(0, by), 1);
            }
        });
        test("Terms, Echoes: a silence without a bell so many places ahead stays", () -> {
            DrownedBells x = book("n:a", "d:b", "t:c");
            ring(x, "a..b");
            due("aa.b", x.echoes(0, 1), 0);
            due("a.ab", x.echoes(0, 2), 0);
            due("a..b by 3", x.echoes(0, 3), 1);
        });
        test("Terms, Echoes: nothing comes round from the end to the beginning", () -> {
            DrownedBells x = book("n:a", "d:b");
            ring(x, "a.b");
            due("a.b by 2, not abb", x.echoes(0, 2), 1);
            ring(x, ".ab");
            due(".ab by 1, not bab", x.echoes(0, 1), 0);
            due(".ab by 2", x.echoes(0, 2), 0);
            word(x, 0, "ba");
            due(".ab by 1, not bab", x.echoes(0, 1), 0);
        });
        test("Terms, Echoes: no bell sounds ahead of itself", () -> {
            DrownedBells x = book("n:a", "d:bb", "t:c");
            ring(x, "ab.c");
            due("abbc, not abcc", x.echoes(0, 1), 1);
        });
        test("Terms, Echoes: bells of the row itself alone have echoes, an echo has none", () -> {
            DrownedBells x = book("n:a", "d:bbb", "t:b");
            ring(x, "ab..");
            due("abb., not abbb", x.echoes(0, 1), 0);
            DrownedBells y = book("n:a", "d:bb", "t:c");
            ring(y, "ab...c");
            due("abb..c, not abbbbc", y.echoes(0, 1), 1);
        });
        test("Terms, Echoes: a bell that fell silent has no echo", () -> {
            DrownedBells x = book("n:a", "d:b");
            ring(x, "ccccccccc");
            ring(x, "ac..b");
            due("as it was rung", peal(x, 0), "a...b");
            due("aa..b", x.echoes(0, 1), 0);
            word(x, 0, "aa");
            due("aa..b, not aac.b", x.echoes(0, 1), 1);
        });
        test("Terms, Echoes: a bell that fell silent is a silence, in place of which an echo sounds", () -> {
            DrownedBells x = book("n:a", "d:bb");
            ring(x, "ccccccccc");
            ring(x, "abc");
            due("parses", x.parses(0), 0);
            due("abb", x.echoes(0, 1), 1);
        });
    }
}
