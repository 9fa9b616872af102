import java.util.HashSet;
import java.util.Set;

/**
 * What every test of the project uses: named tests, answers that are due, and the counts at the end. A class of tests
 * may extend it, so that these names stand there alone.
 *
 * An object is used for at most 512 calls: no test may ask more of one and look at the answers.
 */
abstract class Checks {
    /** More than any line has, so that a test of a broken program ends too. */
    private static final int MUCH = 100;
    private static int passed = 0;
    private static int failed = 0;
    private static int wrong = 0;
    private static final Set<String> NAMES = new HashSet<>();
    /** Far more than the slowest class of tests takes; a loop that has no end must fail, too. */
    private static final long MOST_MILLISECONDS = 300_000;

    static {
        Thread watch = new Thread(Checks::endWhatHasNoEnd);
        watch.setDaemon(true);
        watch.start();
    }

    private static void endWhatHasNoEnd() {
        try {
            Thread.sleep(MOST_MILLISECONDS);
        } catch (InterruptedException early) {
            return;
        }
        System.out.println("FAILED: the tests do not end");
        Runtime.getRuntime().halt(1);
    }

    static void test(String name, Runnable body) {
        wrong = 0;
        due("a name of its own", NAMES.add(name), true);
        try {
            body.run();
        } catch (RuntimeException | Error thrown) {
            wrong++;
            System.out.println(name + ": threw " + thrown);
            thrown.printStackTrace(System.out);
        }
        if (wrong == 0) {
            passed++;
        } else {
            failed++;
            System.out.println("FAILED " + name);
        }
    }

    static void due(String call, long got, long want) {
        if (got != want) {
            wrong++;
            System.out.println("  " + call + " answered " + got + ", due is " + want);
        }
    }

    static void due(String call, boolean got, boolean want) {
        due(call, got ? 1 : 0, want ? 1 : 0);
    }

    static void due(String call, String got, String want) {
        if (!got.equals(want)) {
            wrong++;
            System.out.println("  " + call + " answered \"" + got + "\", due is \"" + want + "\"");
        }
    }

    static void dueExactly(String call, double got, double want) {
        if (Double.compare(got, want) != 0) {
            wrong++;
            System.out.println("  " + call + " answered " + got + ", due is " + want);
        }
    }

    static int countWrong() {
        return wrong;
    }

    static void close() {
        System.out.println(passed + " passed, " + failed + " failed");
        if (failed > 0) {
            System.exit(1);
        }
    }

    // ---- what many tests do with a village

    static DrownedBells lay(DrownedBells x, String signs) {
        for (char sign : signs.toCharArray()) {
            x.lay(sign);
        }
        return x;
    }

    static int word(DrownedBells x, int kind, String signs) {
        return lay(x, signs).word(kind);
    }

    static int ring(DrownedBells x, String signs) {
        return lay(x, signs).ring();
    }

    static DrownedBells append(DrownedBells x, String text) {
        for (char character : text.toCharArray()) {
            x.append(character);
        }
        return x;
    }

    /** The input must have room for the whole text; else it is the test that is wrong. */
    static int read(DrownedBells x, String text) {
        due("room for " + text, text.length() <= 60, true);
        return append(x, text).read();
    }

    static void spliceAll(DrownedBells x) {
        for (int bell = 0; bell < 5; bell++) {
            x.splice(bell);
        }
    }

    static String line(DrownedBells x) {
        StringBuilder line = new StringBuilder();
        for (int next = x.written(0); next != DrownedBells.NONE && line.length() < MUCH; next = x.written(line.length())) {
            line.append((char) next);
        }
        return line.toString();
    }

    static String bookLine(DrownedBells x) {
        x.writeBook();
        return line(x);
    }

    static String pealLine(DrownedBells x, int peal) {
        x.write(peal);
        return line(x);
    }

    /** A peal as it was rung, told by its signs. */
    static String peal(DrownedBells x, int peal) {
        StringBuilder signs = new StringBuilder();
        for (int sign = x.signOf(peal, 0); sign >= 0 && signs.length() < MUCH; sign = x.signOf(peal, signs.length())) {
            signs.append("abcde.".charAt(sign));
        }
        return signs.toString();
    }

    /** What a swimmer hears of a peal, told by its signs. */
    static String heard(DrownedBells x, int swimmer, int peal) {
        StringBuilder signs = new StringBuilder();
        for (int sign = x.hears(swimmer, peal, 0); sign >= 0 && signs.length() < MUCH;
                sign = x.hears(swimmer, peal, signs.length())) {
            signs.append("abcde.".charAt(sign));
        }
        return signs.toString();
    }

    /** The words that a peal says, like "0 1 3". */
    static String saying(DrownedBells x, int peal) {
        StringBuilder words = new StringBuilder();
        int word = x.said(peal, 0);
        for (int place = 1; word >= 0 && place < MUCH; place++) {
            words.append(place == 1 ? "" : " ").append(word);
            word = x.said(peal, place);
        }
        return words.toString();
    }

    /** How many parses signs have as a peal; both ways and the draft must tell the same. */
    static void dueParses(DrownedBells x, String signs, int want) {
        lay(x, signs);
        due("draftParses of " + signs, x.draftParses(), want);
        due(signs + " rings", x.ring() > 0, true);
        due("parses of " + signs, x.parses(0), want);
        due("parsesAgain of " + signs, x.parsesAgain(0), want);
    }

    /** The latest reason with its detail, and what lies behind; like "7:0<2:4". */
    static String reasons(DrownedBells x) {
        return x.reason(0, false) + ":" + x.reason(0, true) + "<" + x.reason(1, false) + ":" + x.reason(1, true);
    }

    static void dueRefused(DrownedBells x, String call, int answer, String reasons) {
        due(call, answer, DrownedBells.REFUSED);
        due("the reasons of " + call, reasons(x), reasons);
    }

    /** All that is undone and saved, but for the signs of words. Some 30 calls, and more for what is there. */
    static String state(DrownedBells x) {
        StringBuilder state = new StringBuilder();
        for (int what = 0; what <= 6; what++) {
            state.append(x.account(what)).append(' ');
        }
        for (int bell = 0; bell < 5; bell++) {
            state.append(x.bellOf(bell, 0)).append(x.bellOf(bell, 1)).append(x.bellOf(bell, 2)).append(' ');
        }
        for (int word = 0; word < x.account(0); word++) {
            state.append(x.wordOf(word, 0)).append(x.wordOf(word, 1)).append(x.listed(word)).append(' ');
        }
        for (int swimmer = 0; swimmer < x.account(1); swimmer++) {
            state.append(x.swimmerOf(swimmer, 0)).append(x.swimmerOf(swimmer, 1)).append(' ');
        }
        for (int peal = 0; peal < x.account(2); peal++) {
            state.append(peal(x, peal)).append(' ');
        }
        return state.toString();
    }

    /** The state, and what is neither undone nor saved. */
    static String everything(DrownedBells x) {
        return state(x) + x.account(7) + " " + x.account(8) + " " + x.account(9) + " " + line(x) + " " + x.fault() + " "
            + reasons(x);
    }

    /** A village whose book has these words, each like "n:ab". */
    static DrownedBells book(String... words) {
        DrownedBells x = new DrownedBells();
        for (String word : words) {
            due("number of the word " + word, word(x, "ndt".indexOf(word.charAt(0)), word.substring(2)), x.account(0) - 1);
        }
        return x;
    }

    /** The same words as in the document's own lines: n:ab d:c t:a.e t:d. */
    static DrownedBells withBook() {
        return book("n:ab", "d:c", "t:a.e", "t:d");
    }
}
