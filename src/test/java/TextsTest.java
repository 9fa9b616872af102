/** Promises 34, 35 and 36: the input, texts and their faults. */
public final class TextsTest {
    public static void main(String[] args) {
        Checks.test("promise 34: append", TextsTest::append);
        Checks.test("promise 35: read, every command", TextsTest::commands);
        Checks.test("promise 35: read, all of them or none", TextsTest::allOrNone);
        Checks.test("promise 35: read, commands that are refused", TextsTest::refused);
        Checks.test("promise 35: read, numbers out of range", TextsTest::outOfRange);
        Checks.test("promise 35: read leaves the draft", TextsTest::draft);
        Checks.test("promise 35: read, the most commands", TextsTest::most);
        Checks.test("promise 36: fault", TextsTest::faults);
        Checks.test("promise 36: fault, the last one is kept", TextsTest::faultKept);
        Checks.close();
    }

    private static void append() {
        DrownedBells x = new DrownedBells();
        Checks.due("code 31", x.append((char) 31), -2);
        Checks.due("code 127", x.append((char) 127), -2);
        Checks.due("code 0", x.append((char) 0), -2);
        Checks.due("code 65535", x.append((char) 65535), -2);
        Checks.due("code 32", x.append((char) 32), 1);
        Checks.due("code 126", x.append((char) 126), 2);
        for (int length = 3; length <= 60; length++) {
            Checks.due("append", x.append('a'), length);
        }
        Checks.due("a 61st", x.append('a'), -4);
        Checks.due("a wrong 61st", x.append('\n'), -2);
        Checks.due("characters", x.account(8), 60);
        Checks.due("changes", x.account(9), 0);
        x.read();
        Checks.due("characters", x.account(8), 0);
    }

    private static void commands() {
        DrownedBells x = new DrownedBells();
        Checks.due("hang", Checks.read(x, "hang c 4"), 1);
        Checks.due("depth of c", x.bellOf(2, 0), 4);
        Checks.due("words", Checks.read(x, "word n ab;word d c;word t a.e"), 3);
        x.writeBook();
        Checks.due("book", Checks.line(x), "n:ab d:c t:a.e");
        Checks.due("swim", Checks.read(x, "swim 1 0;swim 9 9"), 2);
        Checks.due("reach of 0", x.swimmerOf(0, 1), 0);
        Checks.due("depth of 1", x.swimmerOf(1, 0), 9);
        Checks.due("ring", Checks.read(x, "ring ab..ca.e"), 1);
        Checks.due("sense", x.parses(0), 1);
        Checks.due("splice", Checks.read(x, "splice a"), 1);
        Checks.due("wear of a", x.bellOf(0, 1), 0);
        Checks.due("dive", Checks.read(x, "dive 1 5"), 1);
        Checks.due("depth of 1", x.swimmerOf(1, 0), 5);
        Checks.due("strike and go", Checks.read(x, "strike 0;go 0"), 2);
        Checks.due("words", x.account(0), 2);
        Checks.due("depth of 0", x.swimmerOf(0, 0), 5);
        Checks.due("changes", x.account(9), 7);
    }

    private static void allOrNone() {
        DrownedBells x = Checks.withBook();
        x.swim(3, 3);
        Checks.ring(x, "abc");
        int changes = x.account(9);
        Checks.due("read", Checks.read(x, "hang a 5;word n e;strike 0;swim 1 1;dive 0 9;go 0;splice d"), -5);
        Checks.due("reasons", Checks.reasons(x), "7:6<3:3");
        Checks.due("characters", x.account(8), 0);
        Checks.due("depth of a", x.bellOf(0, 0), 1);
        x.writeBook();
        Checks.due("book", Checks.line(x), "n:ab d:c t:a.e t:d");
        Checks.due("swimmers", x.account(1), 1);
        Checks.due("depth of 0", x.swimmerOf(0, 0), 3);
        Checks.due("changes", x.account(9), changes);
        Checks.due("read", Checks.read(x, "ring eee;splice e;ring ab;hang b 1"), -5);
        Checks.due("reasons", Checks.reasons(x), "7:3<2:1");
        Checks.due("peals", x.account(3), 1);
        Checks.due("bells", x.account(4), 3);
        Checks.due("wear", x.account(6), 3);
        Checks.due("wear of e", x.bellOf(4, 1), 0);
        x.write(0);
        Checks.due("peal", Checks.line(x), "abc=n0 d1");
        Checks.due("read one after the other", Checks.read(x, "ring e;splice e;swim 2 2;dive 1 3;go 0"), 5);
        Checks.due("depth of 0", x.swimmerOf(0, 0), 3);
        Checks.due("one change", x.account(9), changes + 1);
        x.undo();
        Checks.due("peals", x.account(3), 1);
        Checks.due("swimmers", x.account(1), 1);
    }

    private static void dueRefused(DrownedBells x, String text, String reasons) {
        Checks.dueRefused(x, "read of " + text, Checks.read(x, text), reasons);
    }

    private static void refused() {
        DrownedBells x = new DrownedBells();
        dueRefused(x, "hang e 1", "7:0<2:1");
        dueRefused(x, "splice e", "7:0<3:4");
        dueRefused(x, "word n ab;word t ab", "7:1<2:0");
        dueRefused(x, "word n abcde", "7:0<4:5");
        dueRefused(x, "word n .....a", "7:0<4:6");
        dueRefused(x, "word n a..", "7:0<5:2");
        dueRefused(x, "word n .", "7:0<5:0");
        dueRefused(x, "ring abcdeabcdeabc", "7:0<4:13");
        dueRefused(x, "ring ......................................................", "7:0<4:54");
        dueRefused(x, "ring ............", "7:0<6:12");
        dueRefused(x, "ring aaaaaaaaa;ring a.", "7:1<6:2");
        dueRefused(x, "swim 1 1;dive 0 1", "7:1<2:1");
        Checks.due("six swimmers", Checks.read(x, "swim 1 1;swim 1 1;swim 1 1;swim 1 1;swim 1 1;swim 1 1"), 6);
        dueRefused(x, "hang a 2;swim 2 2", "7:1<1:6");
    }

    private static void outOfRange() {
        DrownedBells x = new DrownedBells();
        x.hang(0, 2);
        x.hang(0, 2);
        Checks.due("a reason of an older call", Checks.reasons(x), "2:2<-6:-6");
        dueRefused(x, "hang a 0", "7:0<-6:-6");
        dueRefused(x, "hang b 3;hang a 0", "7:1<-6:-6");
        dueRefused(x, "strike 0", "7:0<-6:-6");
        dueRefused(x, "swim 0 5", "7:0<-6:-6");
        dueRefused(x, "dive 0 5", "7:0<-6:-6");
        dueRefused(x, "swim 4 0;dive 1 4", "7:1<-6:-6");
        dueRefused(x, "swim 4 0;dive 0 0", "7:1<-6:-6");
        dueRefused(x, "go 9", "7:0<-6:-6");
        for (int swimmer = 0; swimmer < 6; swimmer++) {
            x.swim(1, 1);
        }
        dueRefused(x, "swim 0 1", "7:0<-6:-6");
        Checks.due("depth of b", x.bellOf(1, 0), 1);
    }

    private static void draft() {
        DrownedBells x = new DrownedBells();
        Checks.lay(x, "abc");
        Checks.due("read", Checks.read(x, "word n e;ring dd"), 2);
        Checks.due("signs of the draft", x.account(7), 3);
        Checks.due("word of the draft", x.word(0), 1);
        x.writeBook();
        Checks.due("book", Checks.line(x), "n:e n:abc");
    }

    private static void most() {
        DrownedBells x = new DrownedBells();
        for (int swimmer = 0; swimmer < 6; swimmer++) {
            x.swim(1, 1);
        }
        Checks.due("60 characters", Checks.read(x, "go 0;go 0;go 0;go 0;go 0;go 0;swim 1 1;swim 1 1;swim 1 1"), 9);
        Checks.due("12 commands", Checks.read(x, "go 0;go 0;go 0;go 0;go 0;go 0;go 0;go 0;go 0;go 0;go 0;go 0"), -5);
        Checks.due("reasons", Checks.reasons(x), "7:3<-6:-6");
        Checks.due("no 13th", Checks.read(x, "go 0;go 0;go 0;go 0;go 0;go 0;go 0;go 0;go 0;go 0;go 0;go 0;"), -2);
        Checks.due("fault", x.fault(), 60);
        Checks.due("swimmers", x.account(1), 3);
    }

    private static void dueFault(String text, int position) {
        DrownedBells x = new DrownedBells();
        Checks.due("read of \"" + text + "\"", Checks.read(x, text), -2);
        Checks.due("fault of \"" + text + "\"", x.fault(), position);
        Checks.due("characters", x.account(8), 0);
        Checks.due("changes", x.account(9), 0);
        Checks.due("words", x.account(0), 0);
        Checks.due("reason", x.reason(0, false), -3);
    }

    private static void faults() {
        Checks.due("fault()", new DrownedBells().fault(), -3);
        String[] endsTooEarly = {
            "", "h", "hang", "hang ", "hang a", "hang a ", "s", "sp", "splice", "splice ", "st", "strike ", "sw",
            "swim ", "swim 1", "swim 1 ", "w", "word ", "word n", "word d ", "d", "dive ", "dive 0", "dive 0 ", "g",
            "go", "go ", "r", "ring", "ring ", "hang a 2;", "ring a;", "go 0;s"};
        for (String text : endsTooEarly) {
            dueFault(text, text.length());
        }
        dueFault(" hang a 2", 0);
        dueFault("Hang a 2", 0);
        dueFault("a", 0);
        dueFault("sa", 1);
        dueFault("sprice a", 2);
        dueFault("swing", 3);
        dueFault("do", 1);
        dueFault("hang  a 2", 5);
        dueFault("hang f 2", 5);
        dueFault("hang . 2", 5);
        dueFault("hang a2", 6);
        dueFault("hang a x", 7);
        dueFault("hang a 12", 8);
        dueFault("hang a 2 ", 8);
        dueFault("hang a 2; splice a", 9);
        dueFault("hang a 2;;", 9);
        dueFault("splice 0", 7);
        dueFault("word x a", 5);
        dueFault("word na", 6);
        dueFault("word n f", 7);
        dueFault("word n abf", 9);
        dueFault("word n ab c", 9);
        dueFault("strike a", 7);
        dueFault("swim a", 5);
        dueFault("swim 1:", 6);
        dueFault("swim 1 /", 7);
        dueFault("dive 0-1", 6);
        dueFault("go 0 0", 4);
        dueFault("go a", 3);
        dueFault("ring ab,", 7);
        dueFault("ring ;", 5);
        dueFault("word n a;word n a;x", 18);
    }

    private static void faultKept() {
        DrownedBells x = new DrownedBells();
        Checks.read(x, "hang ?");
        Checks.due("fault()", x.fault(), 5);
        Checks.due("a text without a fault", Checks.read(x, "hang a 3"), 1);
        Checks.due("fault()", x.fault(), 5);
        Checks.due("a text that is refused", Checks.read(x, "hang a 3"), -5);
        Checks.due("fault()", x.fault(), 5);
        x.undo();
        Checks.due("not undone", x.fault(), 5);
        x.read();
        Checks.due("fault()", x.fault(), 0);
    }
}
