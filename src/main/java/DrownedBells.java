/**
 * A drowned village whose bells speak: peals are rung, heard at depths, parsed by a book, and told.
 *
 * Every row is made by a constructor and used again, so that a call makes no objects.
 */
public final class DrownedBells {
    public static final int NONE = -1;
    public static final int BAD = -2;
    public static final int STATE = -3;
    public static final int FULL = -4;
    public static final int REFUSED = -5;
    public static final int NOTHING = -6;

    private static final int BELLS = 5;
    private static final int SILENCE = 5;
    private static final int LEAST_DEPTH = 1;
    private static final int MOST_DEPTH = 9;
    private static final int MOST_REACH = 9;
    private static final int MOST_WEAR = 9;
    private static final int MOST_WORDS = 8;
    private static final int MOST_WORD_SIGNS = 4;
    private static final int MOST_PEALS = 5;
    private static final int MOST_PEAL_SIGNS = 12;
    private static final int MOST_SWIMMERS = 6;
    private static final int MOST_DRAFT_SIGNS = 20;
    private static final int MOST_CHARACTERS = 60;
    private static final int MOST_COMMANDS = 12;
    private static final int MOST_CHANGES = 8;
    private static final int MOST_PARSES = 9999;
    private static final int MOST_LINE = 64;

    private static final int NAME = 0;
    private static final int DEED = 1;
    private static final int THING = 2;

    private static final int REASON_LIMIT = 1;
    private static final int REASON_ALREADY = 2;
    private static final int REASON_NO_WEAR = 3;
    private static final int REASON_SIGN_COUNT = 4;
    private static final int REASON_SILENT_EDGE = 5;
    private static final int REASON_NO_BELL = 6;
    private static final int REASON_COMMAND = 7;

    private final Village village = new Village();
    private final Village before = new Village();
    private final Village saved = new Village();
    private final History history = new History();
    private final Reasons reasons = new Reasons();
    private final Parser parser = new Parser();
    private final Text text = new Text();
    private final Row draft = new Row(MOST_DRAFT_SIGNS);
    private final Row line = new Row(MOST_LINE);
    private final Row commandSigns = new Row(MOST_CHARACTERS);
    private final Row pealSigns = new Row(MOST_PEAL_SIGNS);
    private final Row pealWords = new Row(MOST_PEAL_SIGNS);
    private final Row heardSigns = new Row(MOST_PEAL_SIGNS);
    private final Row heardWords = new Row(MOST_PEAL_SIGNS);
    private final Row keys = new Row(MOST_WORDS);
    private boolean isSaved = false;
    private int lastFault = NONE;

    public DrownedBells() {
    }

    public int hang(int bell, int depth) {
        before.take(village);
        return settled(village.bells.moveTo(bell, depth, reasons));
    }

    public int splice(int bell) {
        before.take(village);
        return settled(village.bells.mend(bell, reasons));
    }

    public int lay(char sign) {
        int number = signOfCharacter(sign);
        if (number == NONE) {
            return BAD;
        }
        if (draft.isFull()) {
            return FULL;
        }
        draft.add(number);
        return draft.size();
    }

    public int word(int kind) {
        before.take(village);
        return settledDraft(village.book.enter(kind, draft, reasons));
    }

    public int strike(int word) {
        before.take(village);
        return settled(village.book.remove(word));
    }

    public int swim(int depth, int reach) {
        before.take(village);
        return settled(village.swimmers.come(depth, reach, reasons));
    }

    public int dive(int swimmer, int depth) {
        before.take(village);
        return settled(village.swimmers.moveTo(swimmer, depth, reasons));
    }

    public int go(int swimmer) {
        before.take(village);
        return settled(village.swimmers.leave(swimmer));
    }

    public int ring() {
        before.take(village);
        return settledDraft(village.ringPeal(draft, reasons));
    }

    public int bellOf(int bell, int what) {
        if (!village.bells.depths.has(bell)) {
            return NONE;
        }
        switch (what) {
            case 0:
                return village.bells.depths.at(bell);
            case 1:
                return village.bells.wears.at(bell);
            case 2:
                return village.bells.rings.at(bell);
            case 3:
                return swimmersWhoHear(bell);
            case 4:
                return village.book.wordsWith(bell);
            default:
                return BAD;
        }
    }

    public int wordOf(int word, int what) {
        if (!village.book.kinds.has(word)) {
            return NONE;
        }
        switch (what) {
            case 0:
                return village.book.kinds.at(word);
            case 1:
                return village.book.sizes.at(word);
            case 2:
                return village.book.count(word, SILENCE);
            default:
                return BAD;
        }
    }

    public int swimmerOf(int swimmer, int what) {
        if (!village.swimmers.depths.has(swimmer)) {
            return NONE;
        }
        switch (what) {
            case 0:
                return village.swimmers.depths.at(swimmer);
            case 1:
                return village.swimmers.reaches.at(swimmer);
            case 2:
                return bellsHeardBy(swimmer);
            case 3:
                return pealsUnderstoodBy(swimmer);
            default:
                return BAD;
        }
    }

    public int parses(int peal) {
        if (!village.peals.has(peal)) {
            return NONE;
        }
        village.peals.copyTo(peal, pealSigns);
        return parser.countForward(village.book, pealSigns);
    }

    public int parsesAgain(int peal) {
        if (!village.peals.has(peal)) {
            return NONE;
        }
        village.peals.copyTo(peal, pealSigns);
        return parser.countBackward(village.book, pealSigns);
    }

    public int draftParses() {
        return parser.countForward(village.book, draft);
    }

    public int said(int peal, int place) {
        if (!village.peals.has(peal)) {
            return NONE;
        }
        if (!isMeant(peal)) {
            return NOTHING;
        }
        return pealWords.has(place) ? pealWords.at(place) : NONE;
    }

    public int silences(int peal) {
        if (!village.peals.has(peal)) {
            return NONE;
        }
        return isMeant(peal) ? parser.silencesBetween : NOTHING;
    }

    public int signOf(int peal, int place) {
        return village.peals.signAt(peal, place);
    }

    public int hears(int swimmer, int peal, int place) {
        if (!village.swimmers.depths.has(swimmer)) {
            return NONE;
        }
        int sign = village.peals.signAt(peal, place);
        if (sign == NONE) {
            return NONE;
        }
        int depth = village.swimmers.depths.at(swimmer);
        return village.bells.heardAs(sign, depth, village.swimmers.reaches.at(swimmer));
    }

    public int understands(int swimmer, int peal) {
        if (!village.swimmers.depths.has(swimmer) || !village.peals.has(peal)) {
            return NONE;
        }
        int depth = village.swimmers.depths.at(swimmer);
        return understanding(depth, village.swimmers.reaches.at(swimmer), peal);
    }

    public int needs(int swimmer, int peal) {
        if (!village.swimmers.depths.has(swimmer) || !village.peals.has(peal)) {
            return NONE;
        }
        int depth = village.swimmers.depths.at(swimmer);
        for (int reach = 0; reach <= MOST_REACH; reach++) {
            if (understanding(depth, reach, peal) == 1) {
                return reach;
            }
        }
        return NOTHING;
    }

    public int echoes(int peal, int by) {
        if (!village.peals.has(peal)) {
            return NONE;
        }
        if (by < 1 || by > MOST_PEAL_SIGNS) {
            return BAD;
        }
        village.peals.copyTo(peal, pealSigns);
        heardSigns.clear();
        for (int place = 0; place < pealSigns.size(); place++) {
            heardSigns.add(echoAt(place, by));
        }
        return parser.countForward(village.book, heardSigns);
    }

    public int ranked(int place) {
        keys.clear();
        for (int swimmer = 0; swimmer < village.swimmers.depths.size(); swimmer++) {
            int unmet = MOST_PEALS - pealsUnderstoodBy(swimmer);
            keys.add((unmet * 10 + village.swimmers.reaches.at(swimmer)) * 10 + swimmer);
        }
        return inOrder(place);
    }

    public int worn(int place) {
        keys.clear();
        for (int bell = 0; bell < BELLS; bell++) {
            int sound = MOST_WEAR - village.bells.wears.at(bell);
            int height = MOST_DEPTH - village.bells.depths.at(bell);
            keys.add((sound * 10 + height) * 10 + bell);
        }
        return inOrder(place);
    }

    public int listed(int place) {
        keys.clear();
        for (int word = 0; word < village.book.kinds.size(); word++) {
            keys.add(village.book.spellings.at(word) * 10 + word);
        }
        return inOrder(place);
    }

    public boolean isCounted() {
        for (int peal = 0; peal < village.peals.sizes.size(); peal++) {
            village.peals.copyTo(peal, pealSigns);
            int forward = parser.countForward(village.book, pealSigns);
            if (forward != parser.countBackward(village.book, pealSigns)) {
                return false;
            }
        }
        return village.book.isWithoutTwins() && village.bells.rings.sum() == village.bellsRung;
    }

    public double meanWear() {
        return (double) village.bells.wears.sum() / (double) BELLS;
    }

    public float meantShare() {
        int kept = village.peals.sizes.size();
        if (kept == 0) {
            return 0.0f;
        }
        int meant = 0;
        for (int peal = 0; peal < kept; peal++) {
            if (isMeant(peal)) {
                meant++;
            }
        }
        return (float) meant / (float) kept;
    }

    public int account(int what) {
        switch (what) {
            case 0:
                return village.book.kinds.size();
            case 1:
                return village.swimmers.depths.size();
            case 2:
                return village.peals.sizes.size();
            case 3:
                return village.pealsRung;
            case 4:
                return village.bellsRung;
            case 5:
                return village.bellsFallenSilent;
            case 6:
                return village.bells.wears.sum();
            case 7:
                return draft.size();
            case 8:
                return text.input.size();
            case 9:
                return history.count;
            default:
                return BAD;
        }
    }

    public int write(int peal) {
        if (!village.peals.has(peal)) {
            return NONE;
        }
        boolean isMeant = isMeant(peal);
        line.clear();
        for (int place = 0; place < pealSigns.size(); place++) {
            line.add(characterOfSign(pealSigns.at(place)));
        }
        for (int place = 0; isMeant && place < pealWords.size(); place++) {
            line.add(place == 0 ? '=' : ' ');
            line.add(characterOfKind(village.book.kinds.at(pealWords.at(place))));
            line.add('0' + pealWords.at(place));
        }
        return line.size();
    }

    public int writeBook() {
        line.clear();
        for (int word = 0; word < village.book.kinds.size(); word++) {
            if (word > 0) {
                line.add(' ');
            }
            line.add(characterOfKind(village.book.kinds.at(word)));
            line.add(':');
            for (int place = 0; place < village.book.sizes.at(word); place++) {
                line.add(characterOfSign(village.book.signAt(word, place)));
            }
        }
        return line.size();
    }

    public int written(int index) {
        return line.has(index) ? line.at(index) : NONE;
    }

    public int append(char character) {
        if (character < 32 || character > 126) {
            return BAD;
        }
        if (text.input.isFull()) {
            return FULL;
        }
        text.input.add(character);
        return text.input.size();
    }

    public int read() {
        int found = text.findFault();
        if (found != NONE) {
            lastFault = found;
            text.input.clear();
            return BAD;
        }
        before.take(village);
        int answer = performAll();
        text.input.clear();
        return settled(answer);
    }

    public int fault() {
        return lastFault == NONE ? STATE : lastFault;
    }

    public int reason(int depth, boolean isDetail) {
        if (depth < 0 || depth > 1) {
            return BAD;
        }
        if (reasons.latest == NOTHING) {
            return STATE;
        }
        if (depth == 0) {
            return isDetail ? reasons.latestDetail : reasons.latest;
        }
        return isDetail ? reasons.behindDetail : reasons.behind;
    }

    public int undo() {
        if (history.count == 0) {
            return STATE;
        }
        history.giveBack(village);
        return history.count;
    }

    public int save() {
        saved.take(village);
        isSaved = true;
        return village.book.kinds.size();
    }

    public int restore() {
        if (!isSaved) {
            return STATE;
        }
        village.take(saved);
        history.clear();
        return village.book.kinds.size();
    }

    private int settled(int answer) {
        if (answer >= 0) {
            history.keep(before);
        }
        return answer;
    }

    private int settledDraft(int answer) {
        if (answer >= 0) {
            draft.clear();
        }
        return settled(answer);
    }

    private int performAll() {
        for (int index = 0; index < text.commands.size(); index++) {
            int answer = perform(index);
            if (answer < 0) {
                village.take(before);
                return reasons.refuseCommand(index, answer == REFUSED);
            }
        }
        return text.commands.size();
    }

    private int perform(int index) {
        int first = text.numberOf(index, 0);
        int second = text.numberOf(index, 1);
        text.copySigns(index, commandSigns);
        switch (text.commands.at(index)) {
            case Text.HANG:
                return village.bells.moveTo(first, second, reasons);
            case Text.SPLICE:
                return village.bells.mend(first, reasons);
            case Text.WORD:
                return village.book.enter(first, commandSigns, reasons);
            case Text.STRIKE:
                return village.book.remove(first);
            case Text.SWIM:
                return village.swimmers.come(first, second, reasons);
            case Text.DIVE:
                return village.swimmers.moveTo(first, second, reasons);
            case Text.GO:
                return village.swimmers.leave(first);
            case Text.RING:
                return village.ringPeal(commandSigns, reasons);
            default:
                return NONE;
        }
    }

    private int swimmersWhoHear(int bell) {
        int many = 0;
        for (int swimmer = 0; swimmer < village.swimmers.depths.size(); swimmer++) {
            int depth = village.swimmers.depths.at(swimmer);
            int reach = village.swimmers.reaches.at(swimmer);
            if (village.bells.heardAs(bell, depth, reach) == bell) {
                many++;
            }
        }
        return many;
    }

    private int bellsHeardBy(int swimmer) {
        int depth = village.swimmers.depths.at(swimmer);
        int reach = village.swimmers.reaches.at(swimmer);
        int many = 0;
        for (int bell = 0; bell < BELLS; bell++) {
            if (village.bells.heardAs(bell, depth, reach) == bell) {
                many++;
            }
        }
        return many;
    }

    private int pealsUnderstoodBy(int swimmer) {
        int depth = village.swimmers.depths.at(swimmer);
        int reach = village.swimmers.reaches.at(swimmer);
        int many = 0;
        for (int peal = 0; peal < village.peals.sizes.size(); peal++) {
            if (understanding(depth, reach, peal) == 1) {
                many++;
            }
        }
        return many;
    }

    private boolean isMeant(int peal) {
        village.peals.copyTo(peal, pealSigns);
        return parser.isMeant(village.book, pealSigns, pealWords);
    }

    private int understanding(int depth, int reach, int peal) {
        village.peals.copyTo(peal, pealSigns);
        heardSigns.clear();
        for (int place = 0; place < pealSigns.size(); place++) {
            heardSigns.add(village.bells.heardAs(pealSigns.at(place), depth, reach));
        }
        if (!parser.isMeant(village.book, heardSigns, heardWords)) {
            return 0;
        }
        boolean isMeantItself = parser.isMeant(village.book, pealSigns, pealWords);
        return isMeantItself && heardWords.isLike(pealWords) ? 1 : 2;
    }

    private int echoAt(int place, int by) {
        int sign = pealSigns.at(place);
        if (sign != SILENCE || place < by) {
            return sign;
        }
        return pealSigns.at(place - by);
    }

    /** No two keys are alike, so the key with as many lesser ones as the place tells is the one there. */
    private int inOrder(int place) {
        for (int index = 0; index < keys.size(); index++) {
            int lesser = 0;
            for (int other = 0; other < keys.size(); other++) {
                if (keys.at(other) < keys.at(index)) {
                    lesser++;
                }
            }
            if (lesser == place) {
                return index;
            }
        }
        return NONE;
    }

    private static int signOfCharacter(int character) {
        if (character == '.') {
            return SILENCE;
        }
        return character >= 'a' && character <= 'e' ? character - 'a' : NONE;
    }

    private static int characterOfSign(int sign) {
        return sign == SILENCE ? '.' : 'a' + sign;
    }

    private static int characterOfKind(int kind) {
        if (kind == NAME) {
            return 'n';
        }
        return kind == DEED ? 'd' : 't';
    }

    private static int kindOfCharacter(int character) {
        if (character == 'n') {
            return NAME;
        }
        if (character == 'd') {
            return DEED;
        }
        return character == 't' ? THING : NONE;
    }

    private static boolean isDepth(int depth) {
        return depth >= LEAST_DEPTH && depth <= MOST_DEPTH;
    }

    /** Numbers in a fixed room. It looks at every index itself, so that none of its users can make the machine throw. */
    private static final class Row {
        private final int[] cells;
        private int size = 0;

        Row(int room) {
            cells = new int[Math.max(room, 0)];
        }

        int size() {
            return size;
        }

        boolean isFull() {
            return size >= cells.length;
        }

        boolean has(int index) {
            return index >= 0 && index < size && index < cells.length;
        }

        int at(int index) {
            if (index < 0 || index >= size || index >= cells.length) {
                return NONE;
            }
            return cells[index];
        }

        void put(int index, int value) {
            if (index < 0 || index >= size || index >= cells.length) {
                return;
            }
            cells[index] = value;
        }

        /** Adds to a number, which becomes no more than the most. */
        void raise(int index, int more, int most) {
            if (index < 0 || index >= size || index >= cells.length) {
                return;
            }
            cells[index] = Math.min(cells[index] + more, most);
        }

        void add(int value) {
            if (size < 0 || size >= cells.length) {
                return;
            }
            cells[size] = value;
            size++;
        }

        /** In a full row the last number falls out. */
        void addFirst(int value) {
            if (size < cells.length) {
                size++;
            }
            for (int index = size - 1; index > 0; index--) {
                put(index, at(index - 1));
            }
            put(0, value);
        }

        void removeAt(int index) {
            if (!has(index)) {
                return;
            }
            for (int later = index; later < size - 1; later++) {
                put(later, at(later + 1));
            }
            size--;
        }

        void fill(int count, int value) {
            size = 0;
            for (int index = 0; index < count; index++) {
                add(value);
            }
        }

        void clear() {
            size = 0;
        }

        void take(Row other) {
            size = 0;
            for (int index = 0; index < other.size && index < other.cells.length && index < cells.length; index++) {
                cells[index] = other.cells[index];
                size++;
            }
        }

        int sum() {
            int sum = 0;
            for (int index = 0; index < size; index++) {
                sum += at(index);
            }
            return sum;
        }

        boolean isLike(Row other) {
            if (size != other.size) {
                return false;
            }
            for (int index = 0; index < size; index++) {
                if (at(index) != other.at(index)) {
                    return false;
                }
            }
            return true;
        }
    }

    /** The latest reason, and the one behind it; NOTHING where none lies. */
    private static final class Reasons {
        private int latest = NOTHING;
        private int latestDetail = NOTHING;
        private int behind = NOTHING;
        private int behindDetail = NOTHING;

        int refuse(int number, int detail) {
            latest = number;
            latestDetail = detail;
            behind = NOTHING;
            behindDetail = NOTHING;
            return REFUSED;
        }

        /** The latest reason lies behind only if this command has given it; else it is an older call's. */
        int refuseCommand(int command, boolean hasReason) {
            int under = hasReason ? latest : NOTHING;
            int underDetail = hasReason ? latestDetail : NOTHING;
            refuse(REASON_COMMAND, command);
            behind = under;
            behindDetail = underDetail;
            return REFUSED;
        }
    }

    private static final class Bells {
        private final Row depths = new Row(BELLS);
        private final Row wears = new Row(BELLS);
        private final Row rings = new Row(BELLS);

        Bells() {
            depths.fill(BELLS, LEAST_DEPTH);
            wears.fill(BELLS, 0);
            rings.fill(BELLS, 0);
        }

        void take(Bells other) {
            depths.take(other.depths);
            wears.take(other.wears);
            rings.take(other.rings);
        }

        int moveTo(int bell, int depth, Reasons reasons) {
            if (!depths.has(bell)) {
                return NONE;
            }
            if (!isDepth(depth)) {
                return BAD;
            }
            int depthBefore = depths.at(bell);
            if (depthBefore == depth) {
                return reasons.refuse(REASON_ALREADY, depth);
            }
            depths.put(bell, depth);
            return depthBefore;
        }

        int mend(int bell, Reasons reasons) {
            if (!wears.has(bell)) {
                return NONE;
            }
            int wearBefore = wears.at(bell);
            if (wearBefore == 0) {
                return reasons.refuse(REASON_NO_WEAR, bell);
            }
            wears.put(bell, 0);
            return wearBefore;
        }

        boolean canSound(int sign) {
            return wears.has(sign) && wears.at(sign) < MOST_WEAR;
        }

        boolean canAnySound(Row signs) {
            for (int place = 0; place < signs.size(); place++) {
                if (canSound(signs.at(place))) {
                    return true;
                }
            }
            return false;
        }

        /** Returns the sign that sounds. */
        int pull(int sign) {
            if (!canSound(sign)) {
                return SILENCE;
            }
            wears.put(sign, wears.at(sign) + 1);
            rings.put(sign, rings.at(sign) + 1);
            return sign;
        }

        int heardAs(int sign, int depth, int reach) {
            boolean isHeard = depths.has(sign) && Math.abs(depths.at(sign) - depth) <= reach;
            return isHeard ? sign : SILENCE;
        }
    }

    /**
     * Each word's signs are one number, its spelling: four digits of eight, the first sign highest, where 0 is no
     * sign, 1 a silence and 2 to 6 are the bells. So the order of spellings is the order of the alphabet.
     */
    private static final class Book {
        private final Row kinds = new Row(MOST_WORDS);
        private final Row sizes = new Row(MOST_WORDS);
        private final Row spellings = new Row(MOST_WORDS);

        void take(Book other) {
            kinds.take(other.kinds);
            sizes.take(other.sizes);
            spellings.take(other.spellings);
        }

        int enter(int kind, Row signs, Reasons reasons) {
            if (kind < NAME || kind > THING) {
                return BAD;
            }
            int many = signs.size();
            if (many < 1 || many > MOST_WORD_SIGNS) {
                return reasons.refuse(REASON_SIGN_COUNT, many);
            }
            if (signs.at(0) == SILENCE) {
                return reasons.refuse(REASON_SILENT_EDGE, 0);
            }
            if (signs.at(many - 1) == SILENCE) {
                return reasons.refuse(REASON_SILENT_EDGE, many - 1);
            }
            int spelling = spell(signs);
            int twin = wordSpelt(spelling);
            if (twin != NONE) {
                return reasons.refuse(REASON_ALREADY, twin);
            }
            if (kinds.isFull()) {
                return reasons.refuse(REASON_LIMIT, MOST_WORDS);
            }
            kinds.add(kind);
            sizes.add(many);
            spellings.add(spelling);
            return kinds.size() - 1;
        }

        int remove(int word) {
            if (!kinds.has(word)) {
                return NONE;
            }
            kinds.removeAt(word);
            sizes.removeAt(word);
            spellings.removeAt(word);
            return kinds.size();
        }

        int signAt(int word, int place) {
            return signIn(spellings.at(word), place);
        }

        /** How many signs of a word are this one. */
        int count(int word, int sign) {
            int many = 0;
            for (int place = 0; place < sizes.at(word); place++) {
                if (signAt(word, place) == sign) {
                    many++;
                }
            }
            return many;
        }

        int wordsWith(int sign) {
            int many = 0;
            for (int word = 0; word < kinds.size(); word++) {
                if (count(word, sign) > 0) {
                    many++;
                }
            }
            return many;
        }

        boolean standsAt(int word, Row signs, int from) {
            int spelling = spellings.at(word);
            for (int place = 0; place < sizes.at(word); place++) {
                if (signIn(spelling, place) != signs.at(from + place)) {
                    return false;
                }
            }
            return true;
        }

        boolean isWithoutTwins() {
            for (int word = 0; word < spellings.size(); word++) {
                if (wordSpelt(spellings.at(word)) != word) {
                    return false;
                }
            }
            return true;
        }

        private int wordSpelt(int spelling) {
            for (int word = 0; word < spellings.size(); word++) {
                if (spellings.at(word) == spelling) {
                    return word;
                }
            }
            return NONE;
        }

        private static int spell(Row signs) {
            int spelling = 0;
            for (int place = 0; place < MOST_WORD_SIGNS; place++) {
                int digit = 0;
                if (signs.has(place)) {
                    digit = signs.at(place) == SILENCE ? 1 : signs.at(place) + 2;
                }
                spelling = spelling * 8 + digit;
            }
            return spelling;
        }

        private static int signIn(int spelling, int place) {
            int digit = (spelling >> (3 * (MOST_WORD_SIGNS - 1 - place))) & 7;
            return digit == 1 ? SILENCE : digit - 2;
        }
    }

    private static final class Swimmers {
        private final Row depths = new Row(MOST_SWIMMERS);
        private final Row reaches = new Row(MOST_SWIMMERS);

        void take(Swimmers other) {
            depths.take(other.depths);
            reaches.take(other.reaches);
        }

        int come(int depth, int reach, Reasons reasons) {
            if (!isDepth(depth) || reach < 0 || reach > MOST_REACH) {
                return BAD;
            }
            if (depths.isFull()) {
                return reasons.refuse(REASON_LIMIT, MOST_SWIMMERS);
            }
            depths.add(depth);
            reaches.add(reach);
            return depths.size() - 1;
        }

        int moveTo(int swimmer, int depth, Reasons reasons) {
            if (!depths.has(swimmer)) {
                return NONE;
            }
            if (!isDepth(depth)) {
                return BAD;
            }
            int depthBefore = depths.at(swimmer);
            if (depthBefore == depth) {
                return reasons.refuse(REASON_ALREADY, depth);
            }
            depths.put(swimmer, depth);
            return depthBefore;
        }

        int leave(int swimmer) {
            if (!depths.has(swimmer)) {
                return NONE;
            }
            depths.removeAt(swimmer);
            reaches.removeAt(swimmer);
            return depths.size();
        }
    }

    /** The signs of all peals lie in one row, a fixed room for each peal, the latest one first. */
    private static final class Peals {
        private final Row sizes = new Row(MOST_PEALS);
        private final Row signs = new Row(MOST_PEALS * MOST_PEAL_SIGNS);

        Peals() {
            signs.fill(MOST_PEALS * MOST_PEAL_SIGNS, SILENCE);
        }

        void take(Peals other) {
            sizes.take(other.sizes);
            signs.take(other.signs);
        }

        boolean has(int peal) {
            return sizes.has(peal);
        }

        /** Makes an empty peal the latest one. */
        void begin() {
            sizes.addFirst(0);
            for (int index = signs.size() - 1; index >= MOST_PEAL_SIGNS; index--) {
                signs.put(index, signs.at(index - MOST_PEAL_SIGNS));
            }
        }

        void addToLatest(int sign) {
            int size = sizes.at(0);
            if (size >= MOST_PEAL_SIGNS) {
                return;
            }
            signs.put(size, sign);
            sizes.put(0, size + 1);
        }

        int signAt(int peal, int place) {
            if (!sizes.has(peal) || place < 0 || place >= sizes.at(peal)) {
                return NONE;
            }
            return signs.at(peal * MOST_PEAL_SIGNS + place);
        }

        void copyTo(int peal, Row row) {
            row.clear();
            for (int place = 0; place < sizes.at(peal); place++) {
                row.add(signAt(peal, place));
            }
        }
    }

    /** Everything that can be undone and saved. */
    private static final class Village {
        private final Bells bells = new Bells();
        private final Book book = new Book();
        private final Swimmers swimmers = new Swimmers();
        private final Peals peals = new Peals();
        private int pealsRung = 0;
        private int bellsRung = 0;
        private int bellsFallenSilent = 0;

        void take(Village other) {
            bells.take(other.bells);
            book.take(other.book);
            swimmers.take(other.swimmers);
            peals.take(other.peals);
            pealsRung = other.pealsRung;
            bellsRung = other.bellsRung;
            bellsFallenSilent = other.bellsFallenSilent;
        }

        int ringPeal(Row signs, Reasons reasons) {
            int many = signs.size();
            if (many < 1 || many > MOST_PEAL_SIGNS) {
                return reasons.refuse(REASON_SIGN_COUNT, many);
            }
            if (!bells.canAnySound(signs)) {
                return reasons.refuse(REASON_NO_BELL, many);
            }
            peals.begin();
            pealsRung++;
            int rung = 0;
            for (int place = 0; place < many; place++) {
                int sounding = bells.pull(signs.at(place));
                peals.addToLatest(sounding);
                if (sounding != SILENCE) {
                    rung++;
                } else if (signs.at(place) != SILENCE) {
                    bellsFallenSilent++;
                }
            }
            bellsRung += rung;
            return rung;
        }
    }

    /** The villages as they were before the latest changes, in a circle that starts at the oldest one. */
    private static final class History {
        private final Village[] villages = new Village[MOST_CHANGES];
        private int oldest = 0;
        private int count = 0;

        History() {
            for (int index = 0; index < villages.length; index++) {
                villages[index] = new Village();
            }
        }

        void keep(Village village) {
            if (count >= MOST_CHANGES) {
                oldest = (oldest + 1) % MOST_CHANGES;
                count = MOST_CHANGES - 1;
            }
            Village slot = slotOf(count);
            if (slot == null) {
                return;
            }
            slot.take(village);
            count++;
        }

        void giveBack(Village village) {
            Village slot = slotOf(count - 1);
            if (slot == null) {
                return;
            }
            village.take(slot);
            count--;
        }

        void clear() {
            count = 0;
        }

        private Village slotOf(int number) {
            int index = (oldest + number) % MOST_CHANGES;
            if (index < 0 || index >= villages.length) {
                return null;
            }
            return villages[index];
        }
    }

    /**
     * Counts partings. A stage is what a sentence waits for: its name, its deed, or things; so a word's kind is the
     * stage at which it can stand. For each place of a row and each stage there is a cell with its ways.
     */
    private static final class Parser {
        private static final int STAGES = 3;
        private static final int WAITS_FOR_THINGS = THING;

        private final Row ways = new Row((MOST_DRAFT_SIGNS + 1) * STAGES);
        private int silencesBetween = 0;

        int countForward(Book book, Row signs) {
            int end = signs.size();
            if (endsSilent(signs)) {
                return 0;
            }
            ways.fill((end + 1) * STAGES, 0);
            ways.put(cell(0, NAME), 1);
            for (int place = 0; place < end; place++) {
                if (signs.at(place) == SILENCE) {
                    passSilence(place, place + 1);
                    continue;
                }
                for (int word = 0; word < book.kinds.size(); word++) {
                    if (book.standsAt(word, signs, place)) {
                        int kind = book.kinds.at(word);
                        int next = cell(place + book.sizes.at(word), stageAfter(kind));
                        ways.raise(next, ways.at(cell(place, kind)), MOST_PARSES);
                    }
                }
            }
            return ways.at(cell(end, WAITS_FOR_THINGS));
        }

        int countBackward(Book book, Row signs) {
            int end = signs.size();
            if (endsSilent(signs)) {
                return 0;
            }
            ways.fill((end + 1) * STAGES, 0);
            ways.put(cell(end, WAITS_FOR_THINGS), 1);
            for (int place = end - 1; place >= 0; place--) {
                if (signs.at(place) == SILENCE) {
                    passSilence(place + 1, place);
                    continue;
                }
                for (int word = 0; word < book.kinds.size(); word++) {
                    if (book.standsAt(word, signs, place)) {
                        int here = cell(place, book.kinds.at(word));
                        ways.raise(here, waysBehind(book, word, place), MOST_PARSES);
                    }
                }
            }
            return ways.at(cell(0, NAME));
        }

        /** Puts the words of the one parse into the row, which is empty if there is not one alone. */
        boolean isMeant(Book book, Row signs, Row words) {
            words.clear();
            silencesBetween = 0;
            if (countBackward(book, signs) != 1) {
                return false;
            }
            int place = 0;
            int stage = NAME;
            for (int step = 0; step < signs.size() && place < signs.size(); step++) {
                if (signs.at(place) == SILENCE) {
                    silencesBetween++;
                    place++;
                    continue;
                }
                int word = wordOnTheWay(book, signs, place, stage);
                words.add(word);
                place += book.sizes.at(word);
                stage = stageAfter(stage);
            }
            return true;
        }

        private int wordOnTheWay(Book book, Row signs, int place, int stage) {
            for (int word = 0; word < book.kinds.size(); word++) {
                boolean isFit = book.kinds.at(word) == stage && book.standsAt(word, signs, place);
                if (isFit && waysBehind(book, word, place) > 0) {
                    return word;
                }
            }
            return NONE;
        }

        /** Only for cells that were filled from the end back. */
        private int waysBehind(Book book, int word, int place) {
            return ways.at(cell(place + book.sizes.at(word), stageAfter(book.kinds.at(word))));
        }

        /** A silence stands between two words, so none is passed by a sentence that waits for its name. */
        private void passSilence(int from, int to) {
            for (int stage = DEED; stage < STAGES; stage++) {
                ways.raise(cell(to, stage), ways.at(cell(from, stage)), MOST_PARSES);
            }
        }

        private static boolean endsSilent(Row signs) {
            return signs.size() == 0 || signs.at(signs.size() - 1) == SILENCE;
        }

        private static int cell(int place, int stage) {
            return place * STAGES + stage;
        }

        private static int stageAfter(int stage) {
            return Math.min(stage + 1, WAITS_FOR_THINGS);
        }
    }

    /** The input, and the commands that it was parted into. */
    private static final class Text {
        static final int HANG = 0;
        static final int SPLICE = 1;
        static final int WORD = 2;
        static final int STRIKE = 3;
        static final int SWIM = 4;
        static final int DIVE = 5;
        static final int GO = 6;
        static final int RING = 7;
        private static final int KINDS = 8;

        private final Row input = new Row(MOST_CHARACTERS);
        private final Row commands = new Row(MOST_COMMANDS);
        private final Row starts = new Row(MOST_COMMANDS);
        private final Row ends = new Row(MOST_COMMANDS);

        /** Parts the input into commands; returns NONE if it has no fault. */
        int findFault() {
            commands.clear();
            starts.clear();
            ends.clear();
            int start = 0;
            for (int many = 0; many < MOST_CHARACTERS; many++) {
                int command = commandFrom(start);
                if (command == NONE) {
                    return start + longestMatch(start);
                }
                int end = endOf(command, start);
                commands.add(command);
                starts.add(start);
                ends.add(end);
                if (end >= input.size()) {
                    return NONE;
                }
                if (input.at(end) != ';') {
                    return end;
                }
                start = end + 1;
            }
            return start;
        }

        /** The number that stands first (0) or second (1) in a command; NONE if none stands there. */
        int numberOf(int index, int which) {
            String form = formOf(commands.at(index));
            int place = form.indexOf(' ') + 1 + 2 * which;
            if (place < 0 || place >= form.length()) {
                return NONE;
            }
            int character = input.at(starts.at(index) + place);
            switch (form.charAt(place)) {
                case 'B':
                    return signOfCharacter(character);
                case 'K':
                    return kindOfCharacter(character);
                case 'D':
                    return character - '0';
                default:
                    return NONE;
            }
        }

        /** Copies the signs that a command ends with; signs of a command without any are of no use. */
        void copySigns(int index, Row row) {
            row.clear();
            int first = starts.at(index) + formOf(commands.at(index)).length() - 1;
            for (int place = first; place < ends.at(index); place++) {
                row.add(signOfCharacter(input.at(place)));
            }
        }

        private int commandFrom(int start) {
            for (int command = 0; command < KINDS; command++) {
                if (match(command, start) == formOf(command).length()) {
                    return command;
                }
            }
            return NONE;
        }

        private int longestMatch(int start) {
            int longest = 0;
            for (int command = 0; command < KINDS; command++) {
                longest = Math.max(longest, match(command, start));
            }
            return longest;
        }

        private int match(int command, int start) {
            String form = formOf(command);
            for (int place = 0; place < form.length(); place++) {
                if (!isFit(form.charAt(place), input.at(start + place))) {
                    return place;
                }
            }
            return form.length();
        }

        private int endOf(int command, int start) {
            int end = start + formOf(command).length();
            if (command != WORD && command != RING) {
                return end;
            }
            for (int place = end; place < input.size(); place++) {
                if (signOfCharacter(input.at(place)) == NONE) {
                    return place;
                }
            }
            return input.size();
        }

        /** Capitals stand for a bell, a digit, a kind, and the first of the signs; each is one character. */
        private static String formOf(int command) {
            switch (command) {
                case HANG:
                    return "hang B D";
                case SPLICE:
                    return "splice B";
                case WORD:
                    return "word K S";
                case STRIKE:
                    return "strike D";
                case SWIM:
                    return "swim D D";
                case DIVE:
                    return "dive D D";
                case GO:
                    return "go D";
                case RING:
                    return "ring S";
                default:
                    return "";
            }
        }

        private static boolean isFit(char form, int character) {
            switch (form) {
                case 'B':
                    return character != '.' && signOfCharacter(character) != NONE;
                case 'D':
                    return character >= '0' && character <= '9';
                case 'K':
                    return kindOfCharacter(character) != NONE;
                case 'S':
                    return signOfCharacter(character) != NONE;
                default:
                    return character == form;
            }
        }
    }
}
