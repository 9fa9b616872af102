/** What every test of the project uses: named tests, answers that are due, and the counts at the end. */
final class Checks {
    private static int passed = 0;
    private static int failed = 0;
    private static int wrong = 0;

    private Checks() {
    }

    static void test(String name, Runnable body) {
        wrong = 0;
        try {
            body.run();
        } catch (RuntimeException | Error thrown) {
            wrong++;
            System.out.println(name + ": threw " + thrown);
            thrown.printStackTrace(System.out);
        }
        if (wrong == 0) {
            passed++;
        } else {
            failed++;
            System.out.println("FAILED " + name);
        }
    }

    static void due(String call, long got, long want) {
        if (got != want) {
            wrong++;
            System.out.println("  " + call + " answered " + got + ", due is " + want);
        }
    }

    static void due(String call, boolean got, boolean want) {
        due(call, got ? 1 : 0, want ? 1 : 0);
    }

    static void due(String call, String got, String want) {
        if (!got.equals(want)) {
            wrong++;
            System.out.println("  " + call + " answered \"" + got + "\", due is \"" + want + "\"");
        }
    }

    static void dueExactly(String call, double got, double want) {
        if (Double.compare(got, want) != 0) {
            wrong++;
            System.out.println("  " + call + " answered " + got + ", due is " + want);
        }
    }

    static int countWrong() {
        return wrong;
    }

    static void close() {
        System.out.println(passed + " passed, " + failed + " failed");
        if (failed > 0) {
            System.exit(1);
        }
    }

    // ---- what many tests do with a village

    static DrownedBells lay(DrownedBells x, String signs) {
        for (char sign : signs.toCharArray()) {
            x.lay(sign);
        }
        return x;
    }

    static int word(DrownedBells x, int kind, String signs) {
        return lay(x, signs).word(kind);
    }

    static int ring(DrownedBells x, String signs) {
        return lay(x, signs).ring();
    }

    static int read(DrownedBells x, String text) {
        for (char character : text.toCharArray()) {
            x.append(character);
        }
        return x.read();
    }

    static String line(DrownedBells x) {
        StringBuilder line = new StringBuilder();
        for (int index = 0; x.written(index) != DrownedBells.NONE; index++) {
            line.append((char) x.written(index));
        }
        return line.toString();
    }

    /** The latest reason with its detail, and what lies behind; like "7:0<2:4". */
    static String reasons(DrownedBells x) {
        return x.reason(0, false) + ":" + x.reason(0, true) + "<" + x.reason(1, false) + ":" + x.reason(1, true);
    }

    /** The same words as in the document's own lines: n:ab d:c t:a.e t:d. */
    static DrownedBells withBook() {
        DrownedBells x = new DrownedBells();
        word(x, 0, "ab");
        word(x, 1, "c");
        word(x, 2, "a.e");
        word(x, 2, "d");
        return x;
    }
}
