/** Promises 7, 8, 9, 13 and 24: swimmers. */
public final class SwimmersTest {
    public static void main(String[] args) {
        Checks.test("promise 7: swim", SwimmersTest::swim);
        Checks.test("promise 8: dive", SwimmersTest::dive);
        Checks.test("promise 9: go", SwimmersTest::go);
        Checks.test("promise 13: swimmerOf", SwimmersTest::swimmerOf);
        Checks.test("promise 24: ranked", SwimmersTest::ranked);
        Checks.close();
    }

    private static void swim() {
        DrownedBells x = new DrownedBells();
        int[][] wrong = {{0, 1}, {10, 1}, {1, -1}, {1, 10}, {-5, 99}};
        for (int[] numbers : wrong) {
            Checks.due("swim out of range", x.swim(numbers[0], numbers[1]), -2);
        }
        int[][] right = {{1, 0}, {9, 9}, {1, 9}, {9, 0}, {5, 5}, {5, 5}};
        for (int swimmer = 0; swimmer < 6; swimmer++) {
            Checks.due("swim", x.swim(right[swimmer][0], right[swimmer][1]), swimmer);
            Checks.due("depth", x.swimmerOf(swimmer, 0), right[swimmer][0]);
            Checks.due("reach", x.swimmerOf(swimmer, 1), right[swimmer][1]);
        }
        Checks.due("a 7th out of range", x.swim(0, 0), -2);
        Checks.due("reason", x.reason(0, false), -3);
        Checks.due("a 7th", x.swim(1, 1), -5);
        Checks.due("reasons", Checks.reasons(x), "1:6<-6:-6");
        Checks.due("swimmers", x.account(1), 6);
        Checks.due("changes", x.account(9), 6);
    }

    private static void dive() {
        DrownedBells x = new DrownedBells();
        x.swim(2, 3);
        x.swim(4, 1);
        Checks.due("dive(-1, 1)", x.dive(-1, 1), -1);
        Checks.due("dive(2, 0)", x.dive(2, 0), -1);
        Checks.due("dive(1, 0)", x.dive(1, 0), -2);
        Checks.due("dive(1, 10)", x.dive(1, 10), -2);
        Checks.due("dive(1, 4)", x.dive(1, 4), -5);
        Checks.due("reasons", Checks.reasons(x), "2:4<-6:-6");
        Checks.due("dive(1, 9)", x.dive(1, 9), 4);
        Checks.due("dive(1, 1)", x.dive(1, 1), 9);
        Checks.due("depth of 1", x.swimmerOf(1, 0), 1);
        Checks.due("reach of 1", x.swimmerOf(1, 1), 1);
        Checks.due("depth of 0", x.swimmerOf(0, 0), 2);
        Checks.due("changes", x.account(9), 4);
    }

    private static void go() {
        DrownedBells x = new DrownedBells();
        Checks.due("go(0) of none", x.go(0), -1);
        for (int depth = 1; depth <= 3; depth++) {
            x.swim(depth, 9 - depth);
        }
        Checks.due("go(-1)", x.go(-1), -1);
        Checks.due("go(3)", x.go(3), -1);
        Checks.due("go(1)", x.go(1), 2);
        Checks.due("depth of 1", x.swimmerOf(1, 0), 3);
        Checks.due("reach of 1", x.swimmerOf(1, 1), 6);
        Checks.due("depth of 0", x.swimmerOf(0, 0), 1);
        Checks.due("depth of 2", x.swimmerOf(2, 0), -1);
        Checks.due("go(1)", x.go(1), 1);
        Checks.due("go(0)", x.go(0), 0);
        Checks.due("changes", x.account(9), 6);
    }

    private static void swimmerOf() {
        DrownedBells x = Checks.withBook();
        x.hang(2, 4);
        x.hang(4, 9);
        x.swim(1, 2);
        x.swim(6, 3);
        x.swim(5, 9);
        Checks.ring(x, "abc");
        Checks.ring(x, "ab.cd");
        Checks.ring(x, "cc");
        int[][] due = {{1, 2, 3, 0}, {6, 3, 2, 0}, {5, 9, 5, 2}};
        for (int swimmer = 0; swimmer < 3; swimmer++) {
            for (int what = 0; what < 4; what++) {
                Checks.due("swimmerOf(" + swimmer + ", " + what + ")", x.swimmerOf(swimmer, what), due[swimmer][what]);
            }
        }
        Checks.due("swimmerOf(-1, 0)", x.swimmerOf(-1, 0), -1);
        Checks.due("swimmerOf(3, 9)", x.swimmerOf(3, 9), -1);
        Checks.due("swimmerOf(0, -1)", x.swimmerOf(0, -1), -2);
        Checks.due("swimmerOf(0, 4)", x.swimmerOf(0, 4), -2);
    }

    private static void ranked() {
        DrownedBells x = Checks.withBook();
        Checks.due("ranked(0) of none", x.ranked(0), -1);
        x.hang(2, 4);
        x.swim(1, 2);
        x.swim(1, 9);
        x.swim(9, 0);
        x.swim(1, 3);
        x.swim(2, 3);
        Checks.ring(x, "abc");
        int[] order = {3, 4, 1, 2, 0};
        for (int place = 0; place < 5; place++) {
            Checks.due("ranked(" + place + ")", x.ranked(place), order[place]);
        }
        Checks.due("ranked(-1)", x.ranked(-1), -1);
        Checks.due("ranked(5)", x.ranked(5), -1);
        x.dive(0, 2);
        Checks.due("the lesser reach", x.ranked(0), 0);
    }
}
