/** Runs of up to 512 calls, all promises mixed, compared with the model. The numbers come from a fixed row, so each run is the same. */
public final class RandomRunsTest {
    /** An object is used for at most 512 calls; no step makes more than 110. */
    private static final int MOST_CALLS = 512;
    private static final int MOST_CALLS_OF_A_STEP = 110;
    /** A draft of more than 12 signs stays for ever, so a run with one goes on for so many steps only. */
    private static final int MOST_TOO_LONG = 20;
    private static final int[] EXTREMES = {Integer.MIN_VALUE, Integer.MIN_VALUE + 1, -1000000007, -6, -2, -1, 10, 12, 13,
        60, 715827883, 1431655766, Integer.MAX_VALUE - 1, Integer.MAX_VALUE};
    private static final String[] COMMANDS = {"hang", "splice", "word", "strike", "swim", "dive", "go", "ring"};

    private long seed;
    private DrownedBells x;
    private Model y;
    private String[] pool;
    private int[] kinds;
    private int calls = 0;

    private RandomRunsTest(long seed) {
        this.seed = seed;
    }

    public static void main(String[] args) {
        Checks.test("promises 1 to 40: runs of all calls", () -> run(4000, 1));
        Checks.test("promises 14 to 24: runs of peals that mean something", () -> run(4000, 2));
        Checks.test("promises 34 to 40: runs of texts", () -> run(4000, 3));
        Checks.test("wild numbers: nothing is thrown", () -> run(1000, 4));
        Checks.test("promise 36: every beginning of texts, and each character at each place", RandomRunsTest::allFaults);
        Checks.close();
    }

    private static void run(int objects, int way) {
        for (int object = 0; object < objects && Checks.countWrong() == 0; object++) {
            new RandomRunsTest(object * 7919L + way * 104729L).runOne(way);
        }
    }

    private int below(int bound) {
        seed = seed * 6364136223846793005L + 1442695040888963407L;
        return (int) ((seed >>> 33) % bound);
    }

    private void runOne(int way) {
        x = new DrownedBells();
        y = new Model();
        kinds = new int[] {0, 1, 2, 2, 2, 2, 2, 2};
        pool = way == 2 ? book() : anyBook();
        if (way == 2) {
            enterBook();
        }
        int tooLong = 0;
        while (calls <= MOST_CALLS - MOST_CALLS_OF_A_STEP && tooLong < MOST_TOO_LONG && Checks.countWrong() == 0) {
            int before = calls;
            if (way == 2) {
                stepOfMeaning();
            } else {
                step(way);
            }
            tooLong += y.account(7) > 12 ? 1 : 0;
            Checks.due("a step makes few calls", calls - before <= MOST_CALLS_OF_A_STEP, true);
        }
    }

    // ---- what is rung and said

    private String anySigns(int most) {
        StringBuilder signs = new StringBuilder();
        for (int left = 1 + below(most); left > 0; left--) {
            signs.append("abcde.ab".charAt(below(8)));
        }
        return signs.toString();
    }

    private String[] anyBook() {
        String[] words = new String[8];
        for (int word = 0; word < 8; word++) {
            words[word] = anySigns(4);
        }
        return words;
    }

    /** Words that overlap often, so that peals have several parses, and swimmers hear other words. */
    private String[] book() {
        String[][] books = {
            {"a", "b", "c", "d", "c.d", "cd", "dc", "ced"},
            {"ab", "c", "a.e", "d", "a", "e", "de", "d.e"},
            {"a", "b", "c", "cc", "c.c", "e", "ce", "d"},
            {"a.b", "c", "c.c", "d", "e", "d.e", "c..d", "cede"},
            {"aa", "ab", "aaa", "a", "ba", "bb", "a..a", "aba"}};
        return books[below(books.length)];
    }

    private void enterBook() {
        for (int word = 0; word < 8; word++) {
            if (word > 2 && below(4) == 0) {
                kinds[word] = below(3);
            }
            lay(pool[word]);
            same("word", x.word(kinds[word]), y.word(kinds[word]));
        }
    }

    private String wordOfKind(int kind) {
        int word = below(8);
        while (kinds[word] != kind) {
            word = (word + 1) % 8;
        }
        return pool[word];
    }

    /** Mostly a sentence of the book that this run began with. */
    private String sentence() {
        StringBuilder signs = new StringBuilder(wordOfKind(0));
        int things = below(4);
        for (int many = 0; many <= things; many++) {
            signs.append(below(3) == 0 ? "." : "").append(below(8) == 0 ? ".." : "");
            signs.append(wordOfKind(below(15) == 0 ? below(3) : many == 0 ? 1 : 2));
        }
        if (below(15) == 0) {
            signs.append('.');
        }
        if (below(20) > 0 && signs.length() > 12) {
            signs.setLength(12);
        }
        return signs.toString();
    }

    private void lay(String signs) {
        for (char sign : signs.toCharArray()) {
            same("lay", x.lay(sign), y.lay(sign));
        }
    }

    private String command() {
        String name = COMMANDS[below(8)];
        switch (name) {
            case "hang":
                return "hang " + (char) ('a' + below(5)) + " " + below(10);
            case "splice":
                return "splice " + (char) ('a' + below(5));
            case "word":
                return "word " + "ndt".charAt(below(3)) + " " + (below(3) == 0 ? pool[below(8)] : anySigns(5));
            case "ring":
                return "ring " + (below(2) == 0 ? sentence() : anySigns(14));
            case "strike":
                return "strike " + below(9);
            case "go":
                return "go " + below(4);
            default:
                return name + " " + below(name.equals("dive") ? 4 : 10) + " " + below(10);
        }
    }

    private String text() {
        StringBuilder text = new StringBuilder(command());
        while (below(3) > 0 && text.length() < 55) {
            text.append(';').append(command());
        }
        if (below(4) == 0) {
            text.setCharAt(below(text.length()), (char) (32 + below(95)));
        }
        if (below(8) == 0) {
            text.setLength(below(text.length()));
        }
        return text.toString();
    }

    // ---- calls

    private void same(String call, long got, long want) {
        calls++;
        if (got != want) {
            Checks.due("seed " + seed + ": " + call, got, want);
        }
    }

    private void sameExactly(String call, double got, double want) {
        calls++;
        Checks.dueExactly(call, got, want);
    }

    private int number(int bound, int way) {
        int kind = below(way == 4 ? 3 : 40);
        return kind == 0 ? EXTREMES[below(EXTREMES.length)] : below(bound);
    }

    private void step(int way) {
        switch (way == 3 && below(3) > 0 ? 1 : below(8)) {
            case 0 -> change(way);
            case 1 -> readText();
            case 2 -> ringOrWord(way);
            case 3 -> back();
            default -> ask(way);
        }
    }

    private void change(int way) {
        int a = number(6, way);
        int b = number(10, way);
        switch (below(way == 2 ? 8 : 9)) {
            case 0 -> same("hang " + a + " " + b, x.hang(a, b), y.hang(a, b));
            case 1, 2 -> same("splice " + a, x.splice(a), y.splice(a));
            case 3, 4 -> same("swim " + b + " " + a, x.swim(b, a), y.swim(b, a));
            case 5 -> same("dive " + a + " " + b, x.dive(a, b), y.dive(a, b));
            case 6 -> same("go " + a, x.go(a), y.go(a));
            case 7 -> {
                char sign = "abcde.fg\u0000\uffff`/".charAt(below(12));
                same("lay", x.lay(sign), y.lay(sign));
            }
            default -> same("strike " + b, x.strike(b), y.strike(b));
        }
    }

    private void ringOrWord(int way) {
        if (way != 2 && below(2) == 0) {
            lay(below(2) == 0 ? pool[below(8)] : anySigns(5));
            int kind = number(3, way);
            same("draftParses", x.draftParses(), y.draftParses());
            same("word " + kind, x.word(kind), y.word(kind));
            return;
        }
        lay(below(5) > 0 ? sentence() : anySigns(13));
        same("draftParses", x.draftParses(), y.draftParses());
        same("ring", x.ring(), y.ring());
        if (y.account(7) > 0) {
            spliceAll();
            same("ring", x.ring(), y.ring());
        }
    }

    private void spliceAll() {
        for (int bell = 0; bell < 5; bell++) {
            same("splice", x.splice(bell), y.splice(bell));
        }
    }

    /** Peals that mean something, with swimmers who hear some bells and not others; most numbers are there. */
    private void stepOfMeaning() {
        switch (below(12)) {
            case 0 -> {
                int bell = below(5);
                int depth = 1 + below(9);
                same("hang", x.hang(bell, depth), y.hang(bell, depth));
            }
            case 1 -> {
                int depth = 1 + below(9);
                int reach = below(10);
                same("swim", x.swim(depth, reach), y.swim(depth, reach));
                same("dive", x.dive(reach % 3, depth), y.dive(reach % 3, depth));
            }
            case 2 -> spliceAll();
            case 3, 4 -> {
                lay(sentence());
                same("draftParses", x.draftParses(), y.draftParses());
                same("ring", x.ring(), y.ring());
            }
            case 5 -> {
                if (below(6) == 0) {
                    step(2);
                }
            }
            default -> askMeaning();
        }
    }

    private void askMeaning() {
        int swimmer = below(Math.max(1, y.account(1)));
        int peal = below(Math.max(1, y.account(2)));
        int place = below(5);
        int by = 1 + below(6);
        same("parses " + peal, x.parses(peal), y.parses(peal));
        same("parsesAgain " + peal, x.parsesAgain(peal), y.parses(peal));
        same("said " + peal + " " + place, x.said(peal, place), y.said(peal, place));
        same("silences " + peal, x.silences(peal), y.silences(peal));
        same("hears " + swimmer, x.hears(swimmer, peal, place), y.hears(swimmer, peal, place));
        same("understands " + swimmer + " " + peal, x.understands(swimmer, peal), y.understands(swimmer, peal));
        same("needs " + swimmer + " " + peal, x.needs(swimmer, peal), y.needs(swimmer, peal));
        same("echoes " + peal + " " + by, x.echoes(peal, by), y.echoes(peal, by));
        same("swimmerOf " + swimmer, x.swimmerOf(swimmer, 3), y.swimmerOf(swimmer, 3));
        same("ranked " + place, x.ranked(place), y.ranked(place));
        same("isCounted", x.isCounted() ? 1 : 0, 1);
        sameExactly("meantShare", x.meantShare(), y.meantShare());
        askLine(peal, place);
    }

    private void readText() {
        for (char character : text().toCharArray()) {
            same("append", x.append(character), y.append(character));
        }
        same("read", x.read(), y.read());
        same("fault", x.fault(), y.fault());
        askReasons();
    }

    private void askReasons() {
        for (int depth = -1; depth <= 2; depth++) {
            same("reason " + depth, x.reason(depth, false), y.reason(depth, false));
            same("reason's detail " + depth, x.reason(depth, true), y.reason(depth, true));
        }
    }

    private void back() {
        switch (below(8)) {
            case 0 -> same("save", x.save(), y.save());
            case 1 -> same("restore", x.restore(), y.restore());
            case 2, 3, 4 -> same("undo", x.undo(), y.undo());
            default -> askReasons();
        }
    }

    private void ask(int way) {
        int a = number(6, way);
        int b = number(6, way);
        int c = number(13, way);
        switch (below(20)) {
            case 0 -> same("bellOf " + a + " " + b, x.bellOf(a, b), y.bellOf(a, b));
            case 1 -> same("wordOf " + c + " " + b, x.wordOf(c, b), y.wordOf(c, b));
            case 2 -> same("swimmerOf " + a + " " + b, x.swimmerOf(a, b), y.swimmerOf(a, b));
            case 3 -> {
                same("parses " + a, x.parses(a), y.parses(a));
                same("parsesAgain " + a, x.parsesAgain(a), y.parses(a));
            }
            case 4 -> same("said " + a + " " + c, x.said(a, c), y.said(a, c));
            case 5 -> same("silences " + a, x.silences(a), y.silences(a));
            case 6 -> same("signOf " + a + " " + c, x.signOf(a, c), y.signOf(a, c));
            case 7 -> same("hears " + a + " " + b + " " + c, x.hears(a, b, c), y.hears(a, b, c));
            case 8, 9 -> same("understands " + a + " " + b, x.understands(a, b), y.understands(a, b));
            case 10 -> same("needs " + a + " " + b, x.needs(a, b), y.needs(a, b));
            case 11 -> same("echoes " + a + " " + c, x.echoes(a, c), y.echoes(a, c));
            case 12 -> same("ranked " + a, x.ranked(a), y.ranked(a));
            case 13 -> same("worn " + a, x.worn(a), y.worn(a));
            case 14 -> same("listed " + c, x.listed(c), y.listed(c));
            case 15 -> same("isCounted", x.isCounted() ? 1 : 0, y.isCounted() ? 1 : 0);
            case 16 -> {
                sameExactly("meanWear", x.meanWear(), y.meanWear());
                sameExactly("meantShare", x.meantShare(), y.meantShare());
            }
            case 17 -> same("account " + c, x.account(c), y.account(c));
            default -> askLine(a, c);
        }
    }

    private void askLine(int peal, int index) {
        if (below(2) == 0) {
            same("write " + peal, x.write(peal), y.write(peal));
        } else {
            same("writeBook", x.writeBook(), y.writeBook());
        }
        same("written " + index, x.written(index), y.written(index));
        int step = below(6) == 0 ? 1 : 7 + below(12);
        for (int place = -1; place <= 60; place += step) {
            same("written " + place, x.written(place), y.written(place));
        }
    }

    private static void allFaults() {
        String[] texts = {"hang a 2;splice b", "word n a.b;strike 1", "swim 1 2;dive 0 3", "go 0;ring ab.", "word t .;go 1"};
        for (String text : texts) {
            for (int place = 0; place <= text.length(); place++) {
                for (char character = 32; character <= 126; character++) {
                    dueLikeModel(text.substring(0, place) + character);
                    dueLikeModel(text.substring(0, place) + character + text.substring(Math.min(place + 1, text.length())));
                }
            }
        }
    }

    private static void dueLikeModel(String text) {
        DrownedBells program = new DrownedBells();
        Model model = new Model();
        for (char character : text.toCharArray()) {
            program.append(character);
            model.append(character);
        }
        Checks.due("read of " + text, program.read(), model.read());
        Checks.due("fault of " + text, program.fault(), model.fault());
        for (int depth = 0; depth <= 1; depth++) {
            Checks.due("reason of " + text, program.reason(depth, false), model.reason(depth, false));
            Checks.due("detail of " + text, program.reason(depth, true), model.reason(depth, true));
        }
    }
}
