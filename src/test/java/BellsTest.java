/** Promises 1, 2, 3, 11, 25 and 28: a new object, bells and their ropes. */
public final class BellsTest {
    public static void main(String[] args) {
        Checks.test("promise 1: a new object", BellsTest::newObject);
        Checks.test("promise 2: hang", BellsTest::hang);
        Checks.test("promise 2: hang, wrong inputs", BellsTest::hangWrong);
        Checks.test("promise 3: splice", BellsTest::splice);
        Checks.test("promise 11: bellOf", BellsTest::bellOf);
        Checks.test("promise 11: bellOf, wrong inputs", BellsTest::bellOfWrong);
        Checks.test("promise 25: worn", BellsTest::worn);
        Checks.test("promise 28: meanWear", BellsTest::meanWear);
        Checks.close();
    }

    private static void newObject() {
        DrownedBells x = new DrownedBells();
        for (int what = 0; what <= 9; what++) {
            Checks.due("account(" + what + ")", x.account(what), 0);
        }
        for (int bell = 0; bell < 5; bell++) {
            Checks.due("depth", x.bellOf(bell, 0), 1);
            for (int what = 1; what <= 4; what++) {
                Checks.due("bellOf(" + bell + ", " + what + ")", x.bellOf(bell, what), 0);
            }
        }
        Checks.due("wordOf(0, 0)", x.wordOf(0, 0), -1);
        Checks.due("swimmerOf(0, 0)", x.swimmerOf(0, 0), -1);
        Checks.due("parses(0)", x.parses(0), -1);
        Checks.due("written(0)", x.written(0), -1);
        Checks.due("fault()", x.fault(), -3);
        Checks.due("reason(0, false)", x.reason(0, false), -3);
        Checks.due("undo()", x.undo(), -3);
        Checks.due("restore()", x.restore(), -3);
    }

    private static void hang() {
        DrownedBells x = new DrownedBells();
        Checks.due("hang(0, 9)", x.hang(0, 9), 1);
        Checks.due("hang(0, 1)", x.hang(0, 1), 9);
        Checks.due("hang(4, 5)", x.hang(4, 5), 1);
        Checks.due("depth of 4", x.bellOf(4, 0), 5);
        Checks.due("depth of 3", x.bellOf(3, 0), 1);
        Checks.due("changes", x.account(9), 3);
    }

    private static void hangWrong() {
        DrownedBells x = new DrownedBells();
        Checks.due("hang(-1, 2)", x.hang(-1, 2), -1);
        Checks.due("hang(5, 2)", x.hang(5, 2), -1);
        Checks.due("hang(5, 0)", x.hang(5, 0), -1);
        Checks.due("hang(MIN, MAX)", x.hang(Integer.MIN_VALUE, Integer.MAX_VALUE), -1);
        Checks.due("hang(0, 0)", x.hang(0, 0), -2);
        Checks.due("hang(0, 10)", x.hang(0, 10), -2);
        Checks.due("reason(0, false)", x.reason(0, false), -3);
        Checks.due("hang(3, 1)", x.hang(3, 1), -5);
        Checks.due("reasons", Checks.reasons(x), "2:1<-6:-6");
        x.hang(3, 7);
        Checks.due("hang(3, 7)", x.hang(3, 7), -5);
        Checks.due("reasons", Checks.reasons(x), "2:7<-6:-6");
        Checks.due("changes", x.account(9), 1);
    }

    private static void splice() {
        DrownedBells x = new DrownedBells();
        Checks.due("splice(-1)", x.splice(-1), -1);
        Checks.due("splice(5)", x.splice(5), -1);
        Checks.due("splice(4)", x.splice(4), -5);
        Checks.due("reasons", Checks.reasons(x), "3:4<-6:-6");
        Checks.ring(x, "eea");
        Checks.due("splice(4)", x.splice(4), 2);
        Checks.due("wear of 4", x.bellOf(4, 1), 0);
        Checks.due("rang so far", x.bellOf(4, 2), 2);
        Checks.due("wear of 0", x.bellOf(0, 1), 1);
        Checks.due("splice(4)", x.splice(4), -5);
        Checks.due("splice(0)", x.splice(0), 1);
        Checks.due("changes", x.account(9), 3);
    }

    private static void bellOf() {
        DrownedBells x = Checks.withBook();
        Checks.word(x, 2, "aaaa");
        x.hang(0, 6);
        x.swim(3, 3);
        x.swim(9, 2);
        x.swim(7, 9);
        Checks.ring(x, "aaaaaaaaaaaa");
        Checks.due("depth", x.bellOf(0, 0), 6);
        Checks.due("wear", x.bellOf(0, 1), 9);
        Checks.due("rang", x.bellOf(0, 2), 9);
        Checks.due("swimmers who hear it", x.bellOf(0, 3), 2);
        Checks.due("words that have it", x.bellOf(0, 4), 3);
        Checks.due("words that have e", x.bellOf(4, 4), 1);
        x.splice(0);
        Checks.ring(x, "a");
        Checks.due("wear", x.bellOf(0, 1), 1);
        Checks.due("rang", x.bellOf(0, 2), 10);
        x.dive(1, 8);
        Checks.due("swimmers who hear it", x.bellOf(0, 3), 3);
    }

    private static void bellOfWrong() {
        DrownedBells x = new DrownedBells();
        Checks.due("bellOf(-1, 0)", x.bellOf(-1, 0), -1);
        Checks.due("bellOf(5, 9)", x.bellOf(5, 9), -1);
        Checks.due("bellOf(0, -1)", x.bellOf(0, -1), -2);
        Checks.due("bellOf(4, 5)", x.bellOf(4, 5), -2);
    }

    private static void worn() {
        DrownedBells x = new DrownedBells();
        for (int place = 0; place < 5; place++) {
            Checks.due("worn(" + place + ")", x.worn(place), place);
        }
        Checks.ring(x, "ccdd");
        x.hang(3, 2);
        x.hang(4, 9);
        int[] order = {3, 2, 4, 0, 1};
        for (int place = 0; place < 5; place++) {
            Checks.due("worn(" + place + ")", x.worn(place), order[place]);
        }
        Checks.due("worn(-1)", x.worn(-1), -1);
        Checks.due("worn(5)", x.worn(5), -1);
        Checks.ring(x, "b".repeat(12));
        Checks.due("worn(0)", x.worn(0), 1);
    }

    private static void meanWear() {
        DrownedBells x = new DrownedBells();
        Checks.dueExactly("meanWear()", x.meanWear(), 0.0);
        Checks.ring(x, "abbd");
        Checks.dueExactly("meanWear()", x.meanWear(), 4.0 / 5.0);
        Checks.ring(x, "abb.....");
        Checks.dueExactly("meanWear()", x.meanWear(), 7.0 / 5.0);
        x.splice(1);
        Checks.dueExactly("meanWear()", x.meanWear(), 3.0 / 5.0);
    }
}
