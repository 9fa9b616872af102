/** Terms, from "Texts" to "Reasons": for each sentence that names a boundary case a test of its own. */
public final class EdgesOfTextsTest extends Checks {
    public static void main(String[] args) {
        grammar();
        characters();
        faults();
        allOrNone();
        reasonsOfCalls();
        reasonsOfTexts();
        reasonsInOrder();
        reasonsKept();
        close();
    }

    private static DrownedBells sixSwimmers() {
        DrownedBells x = new DrownedBells();
        for (int swimmer = 0; swimmer < 6; swimmer++) {
            x.swim(1, 1);
        }
        return x;
    }

    private static DrownedBells fullBook() {
        return book("n:a", "d:b", "t:c.c", "t:d", "t:e", "t:aa", "t:bb", "t:cccc");
    }

    private static void dueDone(String text, int commands) {
        due("read of \"" + text + "\"", read(new DrownedBells(), text), commands);
    }

    private static void dueFault(String text, int position) {
        DrownedBells x = new DrownedBells();
        due("read of \"" + text + "\"", read(x, text), -2);
        due("fault of \"" + text + "\"", x.fault(), position);
    }

    /** Each beginning of a text ends too early, the empty one too. */
    private static void dueBeginnings(String text) {
        for (int length = 0; length < text.length(); length++) {
            dueFault(text.substring(0, length), length);
        }
    }

    private static void grammar() {
        test("Terms, Texts: the input has 60 characters, and no 61st", () -> {
            DrownedBells x = append(new DrownedBells(), "r".repeat(59));
            due("the 60th", x.append('r'), 60);
            due("the 61st", x.append('r'), -4);
            due("account(8)", x.account(8), 60);
        });
        test("Terms, Texts: a text of 60 characters is read", () -> {
            String text = "ring a;".repeat(7) + "ring a.b.cd";
            due("length", text.length(), 60);
            dueDone(text, 8);
        });
        test("Terms, Texts: a text has one command or several, and not none", () -> {
            dueFault("", 0);
            dueDone("hang a 2", 1);
            dueDone("hang a 2;hang a 3", 2);
            dueDone("hang a 2;hang a 3;hang a 4;hang a 5;hang a 6;hang a 7", 6);
        });
        test("Terms, Texts: 10 commands, the most that can be done at once, are done", () -> {
            DrownedBells x = sixSwimmers();
            due("read", read(x, "ring a;".repeat(4) + "go 0;".repeat(5) + "go 0"), 10);
            due("swimmers", x.account(1), 0);
            due("peals rung", x.account(3), 4);
        });
        test("Terms, Texts: 12 commands, the most that have room, are a text", () -> {
            DrownedBells x = sixSwimmers();
            dueRefused(x, "12 commands", read(x, "go 0;".repeat(11) + "go 0"), "7:6<-6:-6");
            dueRefused(x, "12 commands", read(x, "go 6;" + "go 0;".repeat(10) + "go 0"), "7:0<-6:-6");
            due("12 commands and a semicolon", read(x, "go 0;".repeat(12)), -2);
            due("fault", x.fault(), 60);
            due("12 commands, the last one with a fault", read(x, "go 0;".repeat(11) + "go ;"), -2);
            due("fault", x.fault(), 58);
        });
        test("Terms, Texts: hang has a bell and a digit", () -> {
            DrownedBells x = new DrownedBells();
            due("read", read(x, "hang e 9"), 1);
            due("depth of e", x.bellOf(4, 0), 9);
            due("depth of a", x.bellOf(0, 0), 1);
        });
        test("Terms, Texts: splice has a bell", () -> {
            DrownedBells x = new DrownedBells();
            ring(x, "dde");
            due("read", read(x, "splice d"), 1);
            due("wear of d", x.bellOf(3, 1), 0);
            due("wear of e", x.bellOf(4, 1), 1);
        });
        test("Terms, Texts: word has a kind, a name, a deed or a thing, and signs", () -> {
            DrownedBells x = new DrownedBells();
            due("read", read(x, "word n a;word d b..c;word t cd"), 3);
            due("book", bookLine(x), "n:a d:b..c t:cd");
        });
        test("Terms, Texts: strike has a digit, the word", () -> {
            DrownedBells x = withBook();
            due("read", read(x, "strike 1"), 1);
            due("book", bookLine(x), "n:ab t:a.e t:d");
        });
        test("Terms, Texts: swim has two digits, the depth and then the reach", () -> {
            DrownedBells x = new DrownedBells();
            due("read", read(x, "swim 9 0"), 1);
            due("depth", x.swimmerOf(0, 0), 9);
            due("reach", x.swimmerOf(0, 1), 0);
        });
        test("Terms, Texts: dive has two digits, the swimmer and then the depth", () -> {
            DrownedBells x = new DrownedBells();
            x.swim(5, 5);
            x.swim(6, 6);
            due("read", read(x, "dive 1 3"), 1);
            due("depth of 0", x.swimmerOf(0, 0), 5);
            due("depth of 1", x.swimmerOf(1, 0), 3);
        });
        test("Terms, Texts: go has a digit, the swimmer", () -> {
            DrownedBells x = new DrownedBells();
            x.swim(5, 5);
            x.swim(6, 6);
            due("read", read(x, "go 0"), 1);
            due("depth of 0", x.swimmerOf(0, 0), 6);
        });
        test("Terms, Texts: ring has signs, one or several", () -> {
            DrownedBells x = new DrownedBells();
            due("read", read(x, "ring .a.b;ring e"), 2);
            due("peal 1", peal(x, 1), ".a.b");
            due("peal 0", peal(x, 0), "e");
        });
    }

    private static void characters() {
        test("Terms, Texts: a bell is a, b, c, d or e, and no point", () -> {
            for (char bell = 'a'; bell <= 'e'; bell++) {
                dueDone("hang " + bell + " 2", 1);
                DrownedBells x = new DrownedBells();
                ring(x, "abcde");
                due("splice " + bell, read(x, "splice " + bell), 1);
            }
            for (char other : "`f.A0 ".toCharArray()) {
                dueFault("hang " + other + " 2", 5);
                dueFault("splice " + other, 7);
            }
        });
        test("Terms, Texts: a kind is n, d or t", () -> {
            for (char kind : "ndt".toCharArray()) {
                dueDone("word " + kind + " a", 1);
            }
            for (char other : "mocesuN0. ".toCharArray()) {
                dueFault("word " + other + " a", 5);
            }
        });
        test("Terms, Texts: signs are a to e and points, one at the least", () -> {
            dueDone("ring .a.b.c.d.e.", 1);
            dueDone("word n a", 1);
            for (char other : "`f;A0 -/".toCharArray()) {
                dueFault("ring " + other, 5);
                dueFault("word n " + other, 7);
            }
            for (char other : "`fA0 -/".toCharArray()) {
                dueFault("ring a." + other, 7);
                dueFault("word n a" + other, 8);
            }
        });
        test("Terms, Texts: a digit is 0 to 9, one alone", () -> {
            for (char digit = '1'; digit <= '9'; digit++) {
                dueDone("swim " + digit + " " + digit, 1);
            }
            dueDone("swim 1 0", 1);
            for (char other : "/:a. ".toCharArray()) {
                dueFault("strike " + other, 7);
                dueFault("go " + other, 3);
                dueFault("hang a " + other, 7);
                dueFault("swim " + other + " 1", 5);
                dueFault("swim 1 " + other, 7);
                dueFault("dive " + other + " 1", 5);
                dueFault("dive 0 " + other, 7);
            }
            dueFault("hang a 11", 8);
            dueFault("go 00", 4);
            dueFault("strike 10", 8);
            dueFault("swim 11 1", 6);
            dueFault("swim 1 11", 8);
            dueFault("dive 01 1", 6);
            dueFault("dive 0 11", 8);
        });
        test("Terms, Texts: a single blank stands between what a command has, and none elsewhere", () -> {
            dueFault(" go 0", 0);
            dueFault("go  0", 3);
            dueFault("go0", 2);
            dueFault("go 0 ", 4);
            dueFault("go 0 ;go 0", 4);
            dueFault("go 0; go 0", 5);
            dueFault("hang a  2", 7);
            dueFault("hang a2", 6);
            dueFault("swim 12", 6);
            dueFault("word na", 6);
            dueFault("word n  a", 7);
            dueFault("ring a b", 6);
        });
        test("Terms, Texts: a semicolon stands between two commands, one alone", () -> {
            dueFault(";", 0);
            dueFault(";go 0", 0);
            dueFault("hang a 2;;hang a 3", 9);
            dueFault("hang a 2,hang a 3", 8);
            dueFault("hang a 2hang a 3", 8);
            dueFault("hang a 2;", 9);
        });
    }

    private static void faults() {
        test("Terms, Texts: the fault is at 0 if the first character cannot begin a text", () -> {
            for (char other = 32; other <= 126; other++) {
                if ("hswdgr".indexOf(other) < 0) {
                    dueFault(other + "ang a 2", 0);
                }
            }
        });
        test("Terms, Texts: the fault is the length of an empty text, 0", () -> dueFault("", 0));
        test("Terms, Texts: the fault is the length of a text that ends too early, of each command", () -> {
            for (String text : new String[] {"hang a 2", "splice b", "word n a", "strike 0", "swim 1 0", "dive 0 1",
                "go 0", "ring ."}) {
                dueBeginnings(text);
            }
        });
        test("Terms, Texts: the fault is the length of a text that ends behind a semicolon", () -> {
            dueFault("hang a 2;", 9);
            dueFault("ring a.;", 8);
            dueFault("ring a;ring b;", 14);
        });
        test("Terms, Texts: the fault is the length of 60 characters that end too early", () -> {
            String text = "ring a;".repeat(8) + "ring";
            due("length", text.length(), 60);
            dueFault(text, 60);
        });
        test("Terms, Texts: the fault can be the last of 60 characters", () ->
            dueFault("ring a;".repeat(8) + "rin-", 59));
        test("Terms, Texts: words are looked at letter by letter", () -> {
            for (String text : new String[] {"hang a", "splice a", "word n", "strike", "swim 1", "dive 0", "go 0", "ring"}) {
                for (int place = 0; place < text.length(); place++) {
                    dueFault(text.substring(0, place) + "?", place);
                    dueFault(text.substring(0, place) + "?" + text.substring(place + 1), place);
                }
            }
        });
        test("Terms, Texts: words that begin alike part at the first letter that is unlike", () -> {
            dueFault("sa", 1);
            dueFault("sprike 0", 2);
            dueFault("stlice a", 2);
            dueFault("swlice a", 2);
            dueFault("spim 1 1", 2);
            dueFault("sw", 2);
            dueFault("s", 1);
        });
        test("Terms, Texts: the fault of a later command is counted from the text's beginning", () -> {
            dueFault("ring a;ring b;rong c", 15);
            dueFault("word n ab.c;strike x", 19);
        });
        test("Terms, Texts: the first character that cannot continue, also if others follow", () ->
            dueFault("hang x y;ring ?", 5));
        test("Terms, Texts: a fault is found ahead of every refusal", () -> {
            DrownedBells x = new DrownedBells();
            due("read", read(x, "hang a 1;go 9;ring ?"), -2);
            due("fault", x.fault(), 19);
            due("reason(0, false)", x.reason(0, false), -3);
        });
    }

    private static void allOrNone() {
        test("Terms, Texts: commands are done one after the other, a later one sees what the earlier ones did", () -> {
            DrownedBells x = new DrownedBells();
            due("a swimmer", read(x, "swim 5 5;dive 0 6;dive 0 7;go 0"), 4);
            due("a word", read(x, "word n a;word d b;strike 0;strike 0"), 4);
            due("a rope", read(x, "ring aa;splice a;ring aaa"), 3);
            due("wear", x.bellOf(0, 1), 3);
            due("a depth", read(x, "hang a 2;hang a 1"), 2);
        });
        test("Terms, Texts: if the last command is refused, none is done", () -> {
            DrownedBells x = withBook();
            x.swim(2, 2);
            ring(x, "ab");
            String before = state(x);
            due("read", read(x, "hang a 9;ring ccc;word t ee;strike 0;go 0;splice e"), -5);
            due("reasons", reasons(x), "7:5<3:4");
            due("state", state(x), before);
            due("read", read(x, "splice a;swim 9 9;dive 1 8;go 7"), -5);
            due("state", state(x), before);
        });
        test("Terms, Texts: if the first command is refused, none is done", () -> {
            DrownedBells x = withBook();
            String before = state(x);
            due("read", read(x, "hang a 1;hang b 2;word n e;swim 1 1;ring a"), -5);
            due("state", state(x), before);
        });
        test("Terms, Texts: if a command in the middle is refused, none is done", () -> {
            DrownedBells x = withBook();
            String before = state(x);
            due("read", read(x, "hang b 2;hang a 1;hang c 2"), -5);
            due("state", state(x), before);
        });
        test("Terms, Texts: if a text has a fault, none is done", () -> {
            DrownedBells x = withBook();
            String before = state(x);
            due("read", read(x, "hang b 2;swim 1 1;ring a;strike 0;"), -2);
            due("state", state(x), before);
        });
    }

    private static void reasonsOfCalls() {
        test("Terms, Reasons: 1, there are 8 words: 8", () -> {
            DrownedBells x = fullBook();
            dueRefused(x, "word dd", word(x, 0, "dd"), "1:8<-6:-6");
        });
        test("Terms, Reasons: 1, there are 6 swimmers: 6", () -> {
            DrownedBells x = sixSwimmers();
            dueRefused(x, "swim", x.swim(9, 0), "1:6<-6:-6");
        });
        test("Terms, Reasons: 2, a bell hangs there already: the depth", () -> {
            DrownedBells x = new DrownedBells();
            dueRefused(x, "hang(4, 1)", x.hang(4, 1), "2:1<-6:-6");
            x.hang(4, 9);
            dueRefused(x, "hang(4, 9)", x.hang(4, 9), "2:9<-6:-6");
        });
        test("Terms, Reasons: 2, a swimmer is there already: the depth", () -> {
            DrownedBells x = new DrownedBells();
            x.swim(9, 0);
            dueRefused(x, "dive(0, 9)", x.dive(0, 9), "2:9<-6:-6");
            x.dive(0, 1);
            dueRefused(x, "dive(0, 1)", x.dive(0, 1), "2:1<-6:-6");
        });
        test("Terms, Reasons: 2, a word has these signs already: the word, the first one and the last", () -> {
            DrownedBells x = fullBook();
            dueRefused(x, "word a", word(x, 0, "a"), "2:0<-6:-6");
            x = fullBook();
            dueRefused(x, "word cccc", word(x, 0, "cccc"), "2:7<-6:-6");
        });
        test("Terms, Reasons: 3, the rope has no wear: the bell", () -> {
            for (int bell = 0; bell <= 4; bell++) {
                DrownedBells x = new DrownedBells();
                dueRefused(x, "splice", x.splice(bell), "3:" + bell + "<-6:-6");
            }
        });
        test("Terms, Reasons: 4, there are no signs: 0", () -> {
            DrownedBells x = new DrownedBells();
            dueRefused(x, "word(0)", x.word(0), "4:0<-6:-6");
            x = new DrownedBells();
            dueRefused(x, "ring()", x.ring(), "4:0<-6:-6");
        });
        test("Terms, Reasons: 4, there are too many signs for a word: how many, from 5 to 20", () -> {
            DrownedBells x = lay(new DrownedBells(), "abcd");
            for (int many = 5; many <= 20; many++) {
                x.lay('e');
                dueRefused(x, "word", x.word(0), "4:" + many + "<-6:-6");
            }
        });
        test("Terms, Reasons: 4, there are too many signs for a peal: how many, from 13 to 20", () -> {
            DrownedBells x = lay(new DrownedBells(), "abcdabcdabcd");
            for (int many = 13; many <= 20; many++) {
                x.lay('e');
                dueRefused(x, "ring", x.ring(), "4:" + many + "<-6:-6");
            }
        });
        test("Terms, Reasons: 5, a silence is at the beginning: 0", () -> {
            DrownedBells x = new DrownedBells();
            dueRefused(x, ".ab", word(x, 0, ".ab"), "5:0<-6:-6");
        });
        test("Terms, Reasons: 5, a silence is at the end: its place", () -> {
            for (String signs : new String[] {"a.", "a..", "ab.", "a...", "abc."}) {
                DrownedBells x = new DrownedBells();
                dueRefused(x, signs, word(x, 0, signs), "5:" + (signs.length() - 1) + "<-6:-6");
            }
        });
        test("Terms, Reasons: 5, silences are at the beginning and at the end: the first one of both", () -> {
            for (String signs : new String[] {".", "..", ".a.", ".ab.", "...."}) {
                DrownedBells x = new DrownedBells();
                dueRefused(x, signs, word(x, 0, signs), "5:0<-6:-6");
            }
        });
        test("Terms, Reasons: 6, no bell rings: how many signs there are, from 1 to 12", () -> {
            DrownedBells x = new DrownedBells();
            for (int many = 1; many <= 12; many++) {
                x.lay('.');
                dueRefused(x, "ring", x.ring(), "6:" + many + "<-6:-6");
            }
        });
        test("Terms, Reasons: 6, all bells of it are worn: how many signs, and not how many bells", () -> {
            DrownedBells x = new DrownedBells();
            ring(x, "bbbbbbbbb");
            dueRefused(x, "b.b..", ring(x, "b.b.."), "6:5<-6:-6");
        });
    }

    private static void reasonsOfTexts() {
        test("Terms, Reasons: 7, a command is refused: its number, from 0, the reason behind", () -> {
            DrownedBells x = new DrownedBells();
            dueRefused(x, "the first one", read(x, "hang b 1"), "7:0<2:1");
            dueRefused(x, "the second one", read(x, "hang b 4;hang b 4"), "7:1<2:4");
            dueRefused(x, "the sixth one", read(x, "hang b 4;hang b 5;hang b 4;hang b 5;hang b 4;hang b 4"), "7:5<2:4");
        });
        test("Terms, Reasons: 7, the first command that is refused, though others would be too", () -> {
            DrownedBells x = new DrownedBells();
            dueRefused(x, "read", read(x, "hang b 4;splice b;hang c 1"), "7:1<3:1");
        });
        test("Terms, Reasons: 7, a number is out of range: the command, and nothing behind", () -> {
            DrownedBells x = new DrownedBells();
            dueRefused(x, "read", read(x, "hang b 4;hang b 0"), "7:1<-6:-6");
            dueRefused(x, "read", read(x, "swim 0 0"), "7:0<-6:-6");
        });
        test("Terms, Reasons: 7, the number of the 10th command: 9", () -> {
            DrownedBells x = sixSwimmers();
            dueRefused(x, "read", read(x, "ring a;ring b;ring c;" + "go 0;".repeat(6) + "go 0"), "7:9<-6:-6");
            dueRefused(x, "read", read(x, "ring a;ring b;go 5;" + "go 0;".repeat(5) + "splice c"), "7:8<3:2");
        });
        test("Terms, Reasons: behind 7 lies 1, for words and for swimmers", () -> {
            DrownedBells x = fullBook();
            dueRefused(x, "read", read(x, "hang a 2;word n dd"), "7:1<1:8");
            x = sixSwimmers();
            dueRefused(x, "read", read(x, "swim 2 2"), "7:0<1:6");
        });
        test("Terms, Reasons: behind 7 lies 2, for bells, words and swimmers", () -> {
            DrownedBells x = fullBook();
            x.swim(6, 6);
            dueRefused(x, "read", read(x, "hang c 1"), "7:0<2:1");
            dueRefused(x, "read", read(x, "word n cccc"), "7:0<2:7");
            dueRefused(x, "read", read(x, "dive 0 6"), "7:0<2:6");
        });
        test("Terms, Reasons: behind 7 lies 3", () -> {
            DrownedBells x = new DrownedBells();
            dueRefused(x, "read", read(x, "ring a;splice e"), "7:1<3:4");
        });
        test("Terms, Reasons: behind 7 lies 4, for words and for peals", () -> {
            DrownedBells x = new DrownedBells();
            dueRefused(x, "5 signs", read(x, "word n abcde"), "7:0<4:5");
            dueRefused(x, "53 signs", read(x, "word n " + "a".repeat(53)), "7:0<4:53");
            dueRefused(x, "13 signs", read(x, "ring abcdeabcdeabc"), "7:0<4:13");
            dueRefused(x, "55 signs", read(x, "ring " + ".".repeat(55)), "7:0<4:55");
        });
        test("Terms, Reasons: behind 7 lies 5, at the beginning and at the end", () -> {
            DrownedBells x = new DrownedBells();
            dueRefused(x, "read", read(x, "word d .a"), "7:0<5:0");
            dueRefused(x, "read", read(x, "word d abc."), "7:0<5:3");
            dueRefused(x, "read", read(x, "word d .;ring a"), "7:0<5:0");
        });
        test("Terms, Reasons: behind 7 lies 6", () -> {
            DrownedBells x = new DrownedBells();
            dueRefused(x, "read", read(x, "ring .;ring a"), "7:0<6:1");
            dueRefused(x, "read", read(x, "ring aaaaaaaaa;ring a.........aa"), "7:1<6:12");
        });
        test("Terms, Reasons: behind 7 lies nothing for each number that is out of range", () -> {
            DrownedBells x = withBook();
            x.swim(3, 3);
            for (String command : new String[] {"hang a 0", "strike 4", "strike 9", "swim 0 1", "dive 1 4", "dive 9 0",
                "dive 0 0", "go 1", "go 9"}) {
                x.splice(0);
                dueRefused(x, command, read(x, command), "7:0<-6:-6");
            }
        });
    }

    private static void reasonsInOrder() {
        test("Terms, Reasons: of word, 4 is ahead of 5", () -> {
            DrownedBells x = new DrownedBells();
            dueRefused(x, ".abcd", word(x, 0, ".abcd"), "4:5<-6:-6");
            dueRefused(x, ".abcd.", word(x, 0, "."), "4:6<-6:-6");
        });
        test("Terms, Reasons: of word, 4 is ahead of 1", () -> {
            DrownedBells x = fullBook();
            dueRefused(x, "no signs", x.word(0), "4:0<-6:-6");
            dueRefused(x, "abcde", word(x, 0, "abcde"), "4:5<-6:-6");
        });
        test("Terms, Reasons: of word, 5 is ahead of 1", () -> {
            DrownedBells x = fullBook();
            dueRefused(x, ".a", word(x, 0, ".a"), "5:0<-6:-6");
            x = fullBook();
            dueRefused(x, "ab.", word(x, 0, "ab."), "5:2<-6:-6");
        });
        test("Terms, Reasons: of word, 2 is ahead of 1", () -> {
            DrownedBells x = fullBook();
            dueRefused(x, "bb", word(x, 0, "bb"), "2:6<-6:-6");
        });
        test("Terms, Reasons: of ring, 4 is ahead of 6", () -> {
            DrownedBells x = new DrownedBells();
            dueRefused(x, "no signs", x.ring(), "4:0<-6:-6");
            dueRefused(x, "13 silences", ring(x, "............."), "4:13<-6:-6");
            DrownedBells y = new DrownedBells();
            ring(y, "aaaaaaaaa");
            dueRefused(y, "13 signs of a worn bell", ring(y, "aaaaaaaaaaaaa"), "4:13<-6:-6");
        });
    }

    private static void reasonsKept() {
        test("Terms, Reasons: none is kept at first", () -> due("reasons", reasons(new DrownedBells()), "-3:-3<-3:-3"));
        test("Terms, Reasons: the latest one is kept, in place of the one before", () -> {
            DrownedBells x = new DrownedBells();
            dueRefused(x, "hang", x.hang(2, 1), "2:1<-6:-6");
            dueRefused(x, "splice", x.splice(2), "3:2<-6:-6");
            dueRefused(x, "ring", x.ring(), "4:0<-6:-6");
        });
        test("Terms, Reasons: nothing lies behind a later one that is not 7", () -> {
            DrownedBells x = new DrownedBells();
            dueRefused(x, "read", read(x, "hang a 1"), "7:0<2:1");
            dueRefused(x, "splice", x.splice(2), "3:2<-6:-6");
        });
        test("Terms, Reasons: what lies behind is the text's own, and not an older reason", () -> {
            DrownedBells x = new DrownedBells();
            x.hang(0, 1);
            dueRefused(x, "read", read(x, "go 0"), "7:0<-6:-6");
            dueRefused(x, "read", read(x, "splice e"), "7:0<3:4");
            dueRefused(x, "read", read(x, "hang a 3;hang a 0"), "7:1<-6:-6");
        });
        test("Terms, Reasons: it is kept, with what lies behind, while calls are not refused", () -> {
            DrownedBells x = new DrownedBells();
            dueRefused(x, "read", read(x, "hang a 2;splice a"), "7:1<3:0");
            x.hang(0, 2);
            x.swim(1, 1);
            ring(x, "abc");
            read(x, "hang a 3;ring c");
            due("after changes", reasons(x), "7:1<3:0");
            x.undo();
            x.save();
            x.restore();
            due("after undo, save and restore", reasons(x), "7:1<3:0");
        });
        test("Terms, Reasons: it is kept, with what lies behind, over errors that have no reason", () -> {
            DrownedBells x = new DrownedBells();
            dueRefused(x, "read", read(x, "hang a 2;splice a"), "7:1<3:0");
            due("NONE", x.hang(5, 1), -1);
            due("BAD", x.hang(0, 0), -2);
            due("STATE", x.undo(), -3);
            due("a fault", read(x, "hang"), -2);
            lay(x, "abcdeabcdeabcdeabcde");
            due("FULL", x.lay('a'), -4);
            due("BAD of reason", x.reason(2, false), -2);
            due("kept", reasons(x), "7:1<3:0");
        });
    }
}
