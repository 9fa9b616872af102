/** Promises 27, 30, 37, 38, 39 and 40: accounts, reasons, undo, save and restore. */
public final class ChangesTest {
    public static void main(String[] args) {
        Checks.test("promise 27: isCounted", ChangesTest::isCounted);
        Checks.test("promise 30: account", ChangesTest::account);
        Checks.test("promise 37: reason", ChangesTest::reason);
        Checks.test("promise 38: undo of every change", ChangesTest::undoEvery);
        Checks.test("promises 35, 38 and 40: bells that fell silent are taken back", ChangesTest::undoSilent);
        Checks.test("promise 38: undo, the latest eight", ChangesTest::undoEight);
        Checks.test("promise 38: what is not undone", ChangesTest::notUndone);
        Checks.test("promise 39: save", ChangesTest::save);
        Checks.test("promise 40: restore", ChangesTest::restore);
        Checks.test("promise 40: what is not saved", ChangesTest::notSaved);
        Checks.close();
    }

    private static void isCounted() {
        DrownedBells x = new DrownedBells();
        Checks.due("a new one", x.isCounted(), true);
        Checks.ring(x, "aaaaaaaaaaaa");
        Checks.due("silent bells", x.isCounted(), true);
        for (String signs : new String[] {"b", "bb", "bbb", "a", "a.a", "aa"}) {
            Checks.word(x, signs.length() % 3, signs);
            Checks.due("words", x.isCounted(), true);
        }
        x.splice(0);
        Checks.ring(x, "bbba.aa.abb");
        Checks.due("peals", x.isCounted(), true);
        x.undo();
        x.undo();
        Checks.due("undone", x.isCounted(), true);
    }

    private static void account() {
        DrownedBells x = Checks.withBook();
        x.swim(1, 1);
        x.swim(2, 2);
        Checks.ring(x, "eeeeeeeeeee.");
        Checks.ring(x, "a.b");
        Checks.lay(x, "ab.");
        x.append('w');
        x.append('o');
        int[] due = {4, 2, 2, 2, 11, 2, 11, 3, 2, 8};
        for (int what = 0; what <= 9; what++) {
            Checks.due("account(" + what + ")", x.account(what), due[what]);
        }
        Checks.due("account(-1)", x.account(-1), -2);
        Checks.due("account(10)", x.account(10), -2);
        x.splice(4);
        Checks.due("bells rung so far", x.account(4), 11);
        Checks.due("wear of all", x.account(6), 2);
    }

    private static void reason() {
        DrownedBells x = new DrownedBells();
        Checks.due("reason(-1, false)", x.reason(-1, false), -2);
        Checks.due("reason(2, true)", x.reason(2, true), -2);
        Checks.due("reason(0, true)", x.reason(0, true), -3);
        Checks.due("reason(1, false)", x.reason(1, false), -3);
        x.hang(0, 0);
        x.go(0);
        x.read();
        Checks.due("errors that are no reasons", x.reason(0, false), -3);
        x.splice(3);
        Checks.due("reasons", Checks.reasons(x), "3:3<-6:-6");
        Checks.read(x, "hang a 3;hang a 3");
        Checks.due("reasons", Checks.reasons(x), "7:1<2:3");
        x.splice(3);
        Checks.due("nothing lies behind any more", Checks.reasons(x), "3:3<-6:-6");
        Checks.read(x, "hang a 3;hang a 3");
        Checks.read(x, "go 0");
        Checks.due("reasons", Checks.reasons(x), "7:0<-6:-6");
        x.ring();
        Checks.due("nothing lies behind any more", Checks.reasons(x), "4:0<-6:-6");
        x.hang(0, 9);
        x.hang(9, 9);
        Checks.due("the latest is kept", Checks.reasons(x), "4:0<-6:-6");
        Checks.due("reason(2, true)", x.reason(2, true), -2);
    }

    private static void change(DrownedBells x, int number) {
        switch (number) {
            case 0 -> x.hang(1, 7);
            case 1 -> x.splice(0);
            case 2 -> Checks.word(x, 0, "e.e");
            case 3 -> x.strike(1);
            case 4 -> x.swim(7, 7);
            case 5 -> x.dive(0, 8);
            case 6 -> x.go(0);
            case 7 -> Checks.ring(x, "cba");
            default -> Checks.read(x, "ring dd;go 0;strike 2;hang a 8");
        }
    }

    private static void undoEvery() {
        for (int number = 0; number < 9; number++) {
            DrownedBells x = Checks.withBook();
            x.swim(4, 4);
            x.swim(5, 5);
            Checks.ring(x, "abcd");
            String before = Checks.state(x);
            int changes = x.account(9);
            change(x, number);
            Checks.due("change " + number + " changes", Checks.state(x).equals(before), false);
            Checks.due("changes", x.account(9), changes + 1);
            Checks.due("undo of " + number, x.undo(), changes);
            Checks.due("state", Checks.state(x), before);
        }
    }

    private static void undoSilent() {
        DrownedBells x = new DrownedBells();
        Checks.ring(x, "aaaaaaaaaa");
        x.save();
        Checks.due("bells silent", x.account(5), 1);
        Checks.ring(x, "aab");
        Checks.due("bells silent", x.account(5), 3);
        Checks.due("undo()", x.undo(), 1);
        Checks.due("bells silent", x.account(5), 1);
        Checks.ring(x, "abaa");
        Checks.due("a text that is refused", Checks.read(x, "ring aab;ring a"), -5);
        Checks.due("bells silent", x.account(5), 4);
        x.restore();
        Checks.due("bells silent", x.account(5), 1);
    }

    private static String depths(DrownedBells x) {
        StringBuilder depths = new StringBuilder();
        for (int bell = 0; bell < 5; bell++) {
            depths.append(x.bellOf(bell, 0));
        }
        return depths.toString();
    }

    private static void undoEight() {
        DrownedBells x = new DrownedBells();
        String[] states = new String[11];
        for (int number = 0; number < 11; number++) {
            states[number] = depths(x);
            x.hang(number % 5, 2 + number / 5);
            Checks.due("changes", x.account(9), Math.min(number + 1, 8));
        }
        for (int number = 10; number >= 3; number--) {
            Checks.due("undo()", x.undo(), number - 3);
            Checks.due("depths", depths(x), states[number]);
        }
        Checks.due("undo() of none", x.undo(), -3);
        Checks.due("depths", depths(x), states[3]);
        x.hang(0, 9);
        Checks.due("undo() of a new one", x.undo(), 0);
        Checks.due("depths", depths(x), states[3]);
        for (int number = 0; number < 9; number++) {
            x.hang(0, 9 - x.bellOf(0, 0));
        }
        Checks.due("undo()", x.undo(), 7);
        Checks.due("undo()", x.undo(), 6);
        x.hang(1, 9);
        Checks.due("changes", x.account(9), 7);
    }

    private static void notUndone() {
        DrownedBells x = new DrownedBells();
        Checks.word(x, 0, "ab");
        x.writeBook();
        Checks.lay(x, "cd");
        x.append('h');
        x.hang(0, 1);
        Checks.due("undo()", x.undo(), 0);
        Checks.due("signs of the draft", x.account(7), 2);
        Checks.due("characters", x.account(8), 1);
        Checks.due("reasons", Checks.reasons(x), "2:1<-6:-6");
        Checks.due("line", Checks.line(x), "n:ab");
        x.append('?');
        x.read();
        x.hang(0, 2);
        x.undo();
        Checks.due("fault", x.fault(), 1);
        x.save();
        x.hang(0, 5);
        x.undo();
        Checks.due("what was saved is not undone", x.restore(), 0);
    }

    private static void save() {
        DrownedBells x = Checks.withBook();
        int changes = x.account(9);
        Checks.due("save()", x.save(), 4);
        Checks.due("no change", x.account(9), changes);
        x.strike(0);
        Checks.due("in place of what was saved before", x.save(), 3);
        Checks.word(x, 0, "e");
        Checks.word(x, 0, "ee");
        Checks.due("restore()", x.restore(), 3);
    }

    private static void restore() {
        DrownedBells x = Checks.withBook();
        Checks.due("restore() of nothing", x.restore(), -3);
        x.swim(3, 4);
        Checks.ring(x, "ab.c");
        x.hang(2, 2);
        String before = Checks.state(x);
        x.save();
        for (int number = 0; number < 9; number++) {
            change(x, number);
        }
        Checks.due("restore()", x.restore(), 4);
        Checks.due("state", Checks.state(x), before);
        Checks.due("changes", x.account(9), 0);
        Checks.due("undo()", x.undo(), -3);
        x.hang(2, 3);
        Checks.due("undo()", x.undo(), 0);
        Checks.due("state", Checks.state(x), before);
        Checks.ring(x, "eee");
        Checks.due("it stays saved", x.restore(), 4);
        Checks.due("state", Checks.state(x), before);
    }

    private static void notSaved() {
        DrownedBells x = new DrownedBells();
        Checks.lay(x, "a");
        x.append('x');
        x.save();
        x.lay('b');
        x.append('y');
        Checks.word(x, 0, "");
        x.writeBook();
        x.splice(0);
        x.restore();
        Checks.due("signs of the draft", x.account(7), 0);
        Checks.due("characters", x.account(8), 2);
        Checks.due("line", Checks.line(x), "n:ab");
        Checks.due("reasons", Checks.reasons(x), "3:0<-6:-6");
        Checks.due("words", x.account(0), 0);
        x.read();
        x.restore();
        Checks.due("fault", x.fault(), 0);
    }
}
