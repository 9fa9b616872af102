import java.util.ArrayDeque;
import java.util.ArrayList;
import java.util.Comparator;
import java.util.Deque;
import java.util.HashSet;
import java.util.List;
import java.util.regex.Matcher;
import java.util.regex.Pattern;

/**
 * The document once more, in another way: with texts and lists, every parse spelt out, and a pattern for the grammar.
 * The tests with long runs compare the program with it.
 */
final class Model {
    private static final Pattern COMMAND = Pattern.compile(
        "hang [a-e] [0-9]|splice [a-e]|word [ndt] [a-e.]+|strike [0-9]|swim [0-9] [0-9]|dive [0-9] [0-9]|go [0-9]"
        + "|ring [a-e.]+");
    private static final Pattern TEXT = Pattern.compile("(" + COMMAND + ")(;(" + COMMAND + "))*");
    private static final String KINDS = "ndt";

    private record Word(int kind, String signs) { }

    private record Swimmer(int depth, int reach) { }

    private static final class State {
        int[] depths = {1, 1, 1, 1, 1};
        int[] wears = new int[5];
        int[] rings = new int[5];
        List<Word> words = new ArrayList<>();
        List<Swimmer> swimmers = new ArrayList<>();
        List<String> peals = new ArrayList<>();
        int pealsRung = 0;
        int bellsRung = 0;
        int bellsSilent = 0;

        State copy() {
            State copy = new State();
            copy.depths = depths.clone();
            copy.wears = wears.clone();
            copy.rings = rings.clone();
            copy.words = new ArrayList<>(words);
            copy.swimmers = new ArrayList<>(swimmers);
            copy.peals = new ArrayList<>(peals);
            copy.pealsRung = pealsRung;
            copy.bellsRung = bellsRung;
            copy.bellsSilent = bellsSilent;
            return copy;
        }
    }

    private State now = new State();
    private State saved = null;
    private final Deque<State> past = new ArrayDeque<>();
    private String draft = "";
    private String input = "";
    private String line = "";
    private Integer faultPosition = null;
    private int[] reasons = null;

    // ---- changes

    private int refuse(int... numbers) {
        reasons = numbers;
        return -5;
    }

    private int changed(State before, int answer) {
        if (answer >= 0) {
            past.addLast(before);
            if (past.size() > 8) {
                past.removeFirst();
            }
        }
        return answer;
    }

    private static boolean isIn(int number, int least, int most) {
        return number >= least && number <= most;
    }

    private int doHang(int bell, int depth) {
        if (!isIn(bell, 0, 4)) {
            return -1;
        }
        if (!isIn(depth, 1, 9)) {
            return -2;
        }
        int old = now.depths[bell];
        if (old == depth) {
            return refuse(2, depth);
        }
        now.depths[bell] = depth;
        return old;
    }

    private int doSplice(int bell) {
        if (!isIn(bell, 0, 4)) {
            return -1;
        }
        int old = now.wears[bell];
        if (old == 0) {
            return refuse(3, bell);
        }
        now.wears[bell] = 0;
        return old;
    }

    private int doWord(int kind, String signs) {
        if (!isIn(kind, 0, 2)) {
            return -2;
        }
        if (!isIn(signs.length(), 1, 4)) {
            return refuse(4, signs.length());
        }
        if (signs.startsWith(".")) {
            return refuse(5, 0);
        }
        if (signs.endsWith(".")) {
            return refuse(5, signs.length() - 1);
        }
        for (int word = 0; word < now.words.size(); word++) {
            if (now.words.get(word).signs().equals(signs)) {
                return refuse(2, word);
            }
        }
        if (now.words.size() == 8) {
            return refuse(1, 8);
        }
        now.words.add(new Word(kind, signs));
        return now.words.size() - 1;
    }

    private int doStrike(int word) {
        if (!isIn(word, 0, now.words.size() - 1)) {
            return -1;
        }
        now.words.remove(word);
        return now.words.size();
    }

    private int doSwim(int depth, int reach) {
        if (!isIn(depth, 1, 9) || !isIn(reach, 0, 9)) {
            return -2;
        }
        if (now.swimmers.size() == 6) {
            return refuse(1, 6);
        }
        now.swimmers.add(new Swimmer(depth, reach));
        return now.swimmers.size() - 1;
    }

    private int doDive(int swimmer, int depth) {
        if (!isIn(swimmer, 0, now.swimmers.size() - 1)) {
            return -1;
        }
        if (!isIn(depth, 1, 9)) {
            return -2;
        }
        Swimmer old = now.swimmers.get(swimmer);
        if (old.depth() == depth) {
            return refuse(2, depth);
        }
        now.swimmers.set(swimmer, new Swimmer(depth, old.reach()));
        return old.depth();
    }

    private int doGo(int swimmer) {
        if (!isIn(swimmer, 0, now.swimmers.size() - 1)) {
            return -1;
        }
        now.swimmers.remove(swimmer);
        return now.swimmers.size();
    }

    private int doRing(String signs) {
        if (!isIn(signs.length(), 1, 12)) {
            return refuse(4, signs.length());
        }
        State trial = now.copy();
        StringBuilder rung = new StringBuilder();
        int many = 0;
        for (char sign : signs.toCharArray()) {
            if (sign != '.' && trial.wears[sign - 'a'] < 9) {
                trial.wears[sign - 'a']++;
                trial.rings[sign - 'a']++;
                rung.append(sign);
                many++;
            } else {
                rung.append('.');
                trial.bellsSilent += sign == '.' ? 0 : 1;
            }
        }
        if (many == 0) {
            return refuse(6, signs.length());
        }
        trial.pealsRung++;
        trial.bellsRung += many;
        trial.peals.add(0, rung.toString());
        if (trial.peals.size() > 5) {
            trial.peals.remove(5);
        }
        now = trial;
        return many;
    }

    int hang(int bell, int depth) {
        State before = now.copy();
        return changed(before, doHang(bell, depth));
    }

    int splice(int bell) {
        State before = now.copy();
        return changed(before, doSplice(bell));
    }

    int lay(char sign) {
        if ("abcde.".indexOf(sign) < 0) {
            return -2;
        }
        if (draft.length() == 20) {
            return -4;
        }
        draft += sign;
        return draft.length();
    }

    int word(int kind) {
        State before = now.copy();
        int answer = changed(before, doWord(kind, draft));
        draft = answer >= 0 ? "" : draft;
        return answer;
    }

    int strike(int word) {
        State before = now.copy();
        return changed(before, doStrike(word));
    }

    int swim(int depth, int reach) {
        State before = now.copy();
        return changed(before, doSwim(depth, reach));
    }

    int dive(int swimmer, int depth) {
        State before = now.copy();
        return changed(before, doDive(swimmer, depth));
    }

    int go(int swimmer) {
        State before = now.copy();
        return changed(before, doGo(swimmer));
    }

    int ring() {
        State before = now.copy();
        int answer = changed(before, doRing(draft));
        draft = answer >= 0 ? "" : draft;
        return answer;
    }

    // ---- parses

    /** Every parse, each as its words' numbers, a comma behind each; none is spelt out beyond 9999. */
    private List<String> allParses(String signs) {
        List<String> found = new ArrayList<>();
        follow(signs, 0, 0, "", found);
        return found;
    }

    private void follow(String signs, int from, int many, String words, List<String> found) {
        if (found.size() >= 9999) {
            return;
        }
        if (from == signs.length() && many >= 2) {
            found.add(words);
            return;
        }
        for (int start = from; start < signs.length(); start++) {
            for (int word = 0; word < now.words.size(); word++) {
                Word next = now.words.get(word);
                if (next.kind() == Math.min(many, 2) && signs.startsWith(next.signs(), start)) {
                    follow(signs, start + next.signs().length(), many + 1, words + word + ",", found);
                }
            }
            if (signs.charAt(start) != '.' || many == 0) {
                return;
            }
        }
    }

    private String peal(int peal) {
        return isIn(peal, 0, now.peals.size() - 1) ? now.peals.get(peal) : null;
    }

    private String meaning(String signs) {
        List<String> parses = allParses(signs);
        return parses.size() == 1 ? parses.get(0) : null;
    }

    int parses(int peal) {
        return peal(peal) == null ? -1 : allParses(peal(peal)).size();
    }

    int draftParses() {
        return draft.isEmpty() ? 0 : allParses(draft).size();
    }

    int said(int peal, int place) {
        if (peal(peal) == null) {
            return -1;
        }
        String meaning = meaning(peal(peal));
        if (meaning == null) {
            return -6;
        }
        String[] words = meaning.split(",");
        return isIn(place, 0, words.length - 1) ? Integer.parseInt(words[place]) : -1;
    }

    int silences(int peal) {
        if (peal(peal) == null) {
            return -1;
        }
        String meaning = meaning(peal(peal));
        if (meaning == null) {
            return -6;
        }
        int between = peal(peal).length();
        for (String word : meaning.split(",")) {
            between -= now.words.get(Integer.parseInt(word)).signs().length();
        }
        return between;
    }

    int signOf(int peal, int place) {
        if (peal(peal) == null || !isIn(place, 0, peal(peal).length() - 1)) {
            return -1;
        }
        return "abcde.".indexOf(peal(peal).charAt(place));
    }

    // ---- hearing

    private boolean isHeard(int bell, int depth, int reach) {
        return Math.abs(now.depths[bell] - depth) <= reach;
    }

    private String heard(String signs, int depth, int reach) {
        String heard = signs;
        for (int bell = 0; bell < 5; bell++) {
            if (!isHeard(bell, depth, reach)) {
                heard = heard.replace((char) ('a' + bell), '.');
            }
        }
        return heard;
    }

    private boolean isSwimmer(int swimmer) {
        return isIn(swimmer, 0, now.swimmers.size() - 1);
    }

    int hears(int swimmer, int peal, int place) {
        if (!isSwimmer(swimmer) || signOf(peal, place) == -1) {
            return -1;
        }
        Swimmer one = now.swimmers.get(swimmer);
        return "abcde.".indexOf(heard(peal(peal), one.depth(), one.reach()).charAt(place));
    }

    private int understanding(int depth, int reach, String signs) {
        String heard = meaning(heard(signs, depth, reach));
        if (heard == null) {
            return 0;
        }
        return heard.equals(meaning(signs)) ? 1 : 2;
    }

    int understands(int swimmer, int peal) {
        if (!isSwimmer(swimmer) || peal(peal) == null) {
            return -1;
        }
        Swimmer one = now.swimmers.get(swimmer);
        return understanding(one.depth(), one.reach(), peal(peal));
    }

    int needs(int swimmer, int peal) {
        if (!isSwimmer(swimmer) || peal(peal) == null) {
            return -1;
        }
        for (int reach = 0; reach <= 9; reach++) {
            if (understanding(now.swimmers.get(swimmer).depth(), reach, peal(peal)) == 1) {
                return reach;
            }
        }
        return -6;
    }

    int echoes(int peal, int by) {
        if (peal(peal) == null) {
            return -1;
        }
        if (!isIn(by, 1, 12)) {
            return -2;
        }
        String shifted = ".".repeat(by) + peal(peal);
        StringBuilder echo = new StringBuilder(peal(peal));
        for (int place = 0; place < echo.length(); place++) {
            if (echo.charAt(place) == '.') {
                echo.setCharAt(place, shifted.charAt(place));
            }
        }
        return allParses(echo.toString()).size();
    }

    // ---- numbers and orders

    int bellOf(int bell, int what) {
        if (!isIn(bell, 0, 4)) {
            return -1;
        }
        return switch (what) {
            case 0 -> now.depths[bell];
            case 1 -> now.wears[bell];
            case 2 -> now.rings[bell];
            case 3 -> (int) now.swimmers.stream().filter(s -> isHeard(bell, s.depth(), s.reach())).count();
            case 4 -> (int) now.words.stream().filter(w -> w.signs().indexOf('a' + bell) >= 0).count();
            default -> -2;
        };
    }

    int wordOf(int word, int what) {
        if (!isIn(word, 0, now.words.size() - 1)) {
            return -1;
        }
        Word one = now.words.get(word);
        return switch (what) {
            case 0 -> one.kind();
            case 1 -> one.signs().length();
            case 2 -> one.signs().length() - one.signs().replace(".", "").length();
            default -> -2;
        };
    }

    int swimmerOf(int swimmer, int what) {
        if (!isSwimmer(swimmer)) {
            return -1;
        }
        Swimmer one = now.swimmers.get(swimmer);
        return switch (what) {
            case 0 -> one.depth();
            case 1 -> one.reach();
            case 2 -> 5 - heard("abcde", one.depth(), one.reach()).replaceAll("[a-e]", "").length();
            case 3 -> understood(swimmer);
            default -> -2;
        };
    }

    private int understood(int swimmer) {
        int many = 0;
        for (int peal = 0; peal < now.peals.size(); peal++) {
            many += understands(swimmer, peal) == 1 ? 1 : 0;
        }
        return many;
    }

    private static int placed(int count, Comparator<Integer> order, int place) {
        List<Integer> numbers = new ArrayList<>();
        for (int number = 0; number < count; number++) {
            numbers.add(number);
        }
        numbers.sort(order);
        return isIn(place, 0, count - 1) ? numbers.get(place) : -1;
    }

    int ranked(int place) {
        Comparator<Integer> order = Comparator.comparing(swimmer -> -understood(swimmer));
        return placed(now.swimmers.size(), order.thenComparing(swimmer -> now.swimmers.get(swimmer).reach()), place);
    }

    int worn(int place) {
        Comparator<Integer> order = Comparator.comparing(bell -> -now.wears[bell]);
        return placed(5, order.thenComparing(bell -> -now.depths[bell]), place);
    }

    int listed(int place) {
        return placed(now.words.size(), Comparator.comparing(word -> now.words.get(word).signs()), place);
    }

    boolean isCounted() {
        return new HashSet<>(now.words.stream().map(Word::signs).toList()).size() == now.words.size();
    }

    double meanWear() {
        return (double) account(6) / 5.0;
    }

    float meantShare() {
        int meant = (int) now.peals.stream().filter(signs -> meaning(signs) != null).count();
        return now.peals.isEmpty() ? 0.0f : (float) meant / (float) now.peals.size();
    }

    int account(int what) {
        return switch (what) {
            case 0 -> now.words.size();
            case 1 -> now.swimmers.size();
            case 2 -> now.peals.size();
            case 3 -> now.pealsRung;
            case 4 -> now.bellsRung;
            case 5 -> now.bellsSilent;
            case 6 -> now.wears[0] + now.wears[1] + now.wears[2] + now.wears[3] + now.wears[4];
            case 7 -> draft.length();
            case 8 -> input.length();
            case 9 -> past.size();
            default -> -2;
        };
    }

    // ---- lines and texts

    int write(int peal) {
        if (peal(peal) == null) {
            return -1;
        }
        line = peal(peal);
        String meaning = meaning(line);
        if (meaning != null) {
            List<String> told = new ArrayList<>();
            for (String word : meaning.split(",")) {
                told.add(KINDS.charAt(now.words.get(Integer.parseInt(word)).kind()) + word);
            }
            line += "=" + String.join(" ", told);
        }
        return line.length();
    }

    int writeBook() {
        line = String.join(" ", now.words.stream().map(w -> KINDS.charAt(w.kind()) + ":" + w.signs()).toList());
        return line.length();
    }

    int written(int index) {
        return isIn(index, 0, line.length() - 1) ? line.charAt(index) : -1;
    }

    int append(char character) {
        if (!isIn(character, 32, 126)) {
            return -2;
        }
        if (input.length() == 60) {
            return -4;
        }
        input += character;
        return input.length();
    }

    /** A beginning can be continued if it is a text, or if more of it could have made it one. */
    private static boolean canContinue(String beginning) {
        Matcher matcher = TEXT.matcher(beginning);
        return matcher.matches() || matcher.hitEnd();
    }

    int read() {
        String text = input;
        input = "";
        if (!TEXT.matcher(text).matches()) {
            int position = 0;
            while (position < text.length() && canContinue(text.substring(0, position + 1))) {
                position++;
            }
            faultPosition = position;
            return -2;
        }
        State before = now.copy();
        String[] commands = text.split(";");
        for (int number = 0; number < commands.length; number++) {
            int answer = perform(commands[number].split(" "));
            if (answer < 0) {
                now = before;
                return answer == -5 ? refuse(7, number, reasons[0], reasons[1]) : refuse(7, number);
            }
        }
        return changed(before, commands.length);
    }

    private int perform(String[] command) {
        int last = command[command.length - 1].charAt(0) - '0';
        char first = command[1].charAt(0);
        return switch (command[0]) {
            case "hang" -> doHang(first - 'a', last);
            case "splice" -> doSplice(first - 'a');
            case "word" -> doWord(KINDS.indexOf(first), command[2]);
            case "strike" -> doStrike(last);
            case "swim" -> doSwim(first - '0', last);
            case "dive" -> doDive(first - '0', last);
            case "go" -> doGo(last);
            default -> doRing(command[1]);
        };
    }

    int fault() {
        return faultPosition == null ? -3 : faultPosition;
    }

    int reason(int depth, boolean isDetail) {
        if (!isIn(depth, 0, 1)) {
            return -2;
        }
        if (reasons == null) {
            return -3;
        }
        int index = 2 * depth + (isDetail ? 1 : 0);
        return index < reasons.length ? reasons[index] : -6;
    }

    int undo() {
        if (past.isEmpty()) {
            return -3;
        }
        now = past.removeLast();
        return past.size();
    }

    int save() {
        saved = now.copy();
        return now.words.size();
    }

    int restore() {
        if (saved == null) {
            return -3;
        }
        now = saved.copy();
        past.clear();
        return now.words.size();
    }
}
