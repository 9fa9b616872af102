/** Terms, from "Changes" to "The constants", and "Not promised": for each sentence that names a boundary case a test of its own. */
public final class EdgesOfChangesTest extends Checks {
    private static final int LEAST = Integer.MIN_VALUE;
    private static final int MOST = Integer.MAX_VALUE;

    public static void main(String[] args) {
        changes();
        noChanges();
        latestEight();
        notUndone();
        notSaved();
        errors();
        firstError();
        draft();
        inDoubtOfCommands();
        inDoubtOfPeals();
        inDoubtOfParses();
        inDoubtOfNow();
        constants();
        notPromised();
        close();
    }

    /** A village in which each of the changes can be done. */
    private static DrownedBells village() {
        DrownedBells x = withBook();
        x.swim(4, 4);
        x.swim(5, 5);
        ring(x, "abcd");
        return x;
    }

    private static void dueChange(String call, DrownedBells x, int answer, int changes) {
        due(call + " returns no error", answer >= 0, true);
        due("changes after " + call, x.account(9), changes);
    }

    private static void changes() {
        test("Terms, Changes: hang, splice, strike, swim, dive and go are changes", () -> {
            DrownedBells x = village();
            x.save();
            x.restore();
            dueChange("hang", x, x.hang(0, 2), 1);
            dueChange("splice", x, x.splice(0), 2);
            dueChange("strike", x, x.strike(0), 3);
            dueChange("swim", x, x.swim(1, 1), 4);
            dueChange("dive", x, x.dive(0, 1), 5);
            dueChange("go", x, x.go(0), 6);
        });
        test("Terms, Changes: word and ring are changes", () -> {
            DrownedBells x = new DrownedBells();
            dueChange("word", x, word(x, 0, "a"), 1);
            dueChange("ring", x, ring(x, "a"), 2);
        });
        test("Terms, Changes: read is one change, of however many commands", () -> {
            DrownedBells x = new DrownedBells();
            dueChange("read", x, read(x, "hang a 2"), 1);
            dueChange("read", x, read(x, "hang a 3;swim 1 1;ring a;splice a;word n a;strike 0"), 2);
            due("undo", x.undo(), 1);
            due("depth of a", x.bellOf(0, 0), 2);
            due("swimmers", x.account(1), 0);
            due("peals", x.account(3), 0);
        });
        test("Terms, Changes: each of them is undone as a whole", () -> {
            for (int number = 0; number < 9; number++) {
                DrownedBells x = village();
                String before = state(x);
                int changes = x.account(9);
                due("change " + number, change(x, number) >= 0, true);
                due("change " + number + " changes", state(x).equals(before), false);
                due("undo of " + number, x.undo(), Math.min(changes, 7));
                due("state", state(x), before);
            }
        });
        test("Terms, Changes: also a text after which nothing is otherwise", () -> {
            DrownedBells x = new DrownedBells();
            dueChange("read", x, read(x, "hang a 2;hang a 1"), 1);
            dueChange("read", x, read(x, "swim 1 1;go 0"), 2);
            dueChange("read", x, read(x, "word n a;strike 0"), 3);
            due("undo", x.undo(), 2);
        });
        test("Terms, Changes: also a change that is the opposite of the one before", () -> {
            DrownedBells x = new DrownedBells();
            x.hang(0, 2);
            dueChange("hang", x, x.hang(0, 1), 2);
            due("undo", x.undo(), 1);
            due("depth", x.bellOf(0, 0), 2);
        });
    }

    private static int change(DrownedBells x, int number) {
        switch (number) {
            case 0:
                return x.hang(1, 7);
            case 1:
                return x.splice(0);
            case 2:
                return word(x, 0, "e.e");
            case 3:
                return x.strike(1);
            case 4:
                return x.swim(7, 7);
            case 5:
                return x.dive(0, 8);
            case 6:
                return x.go(0);
            case 7:
                return ring(x, "cba");
            default:
                return read(x, "ring dd;go 0;strike 2;hang a 8");
        }
    }

    private static void noChanges() {
        test("Terms, Changes: lay, append, save, restore, undo and what is asked are no changes", () -> {
            DrownedBells x = village();
            x.save();
            x.restore();
            lay(x, "ab");
            append(x, "go");
            x.save();
            x.write(0);
            x.writeBook();
            x.written(0);
            x.ranked(0);
            x.worn(0);
            x.listed(0);
            x.parses(0);
            x.parsesAgain(0);
            x.draftParses();
            x.needs(0, 0);
            x.echoes(0, 1);
            due("changes", x.account(9), 0);
            due("undo", x.undo(), -3);
        });
        test("Terms, Changes: a call that returns an error is no change", () -> {
            DrownedBells x = new DrownedBells();
            x.hang(0, 9);
            x.hang(0, 9);
            x.hang(0, 0);
            x.hang(5, 1);
            x.splice(1);
            x.word(0);
            x.word(3);
            x.strike(0);
            x.swim(0, 0);
            x.dive(0, 1);
            x.go(0);
            x.ring();
            x.read();
            read(x, "hang a 9");
            due("changes", x.account(9), 1);
            due("undo", x.undo(), 0);
            due("depth", x.bellOf(0, 0), 1);
        });
    }

    private static void latestEight() {
        test("Terms, Changes: 8 changes can be undone", () -> {
            DrownedBells x = new DrownedBells();
            for (int many = 1; many <= 8; many++) {
                x.hang(0, 1 + many);
                due("account(9)", x.account(9), many);
            }
            for (int many = 7; many >= 0; many--) {
                due("undo", x.undo(), many);
                due("depth", x.bellOf(0, 0), 1 + many);
            }
            due("undo of none", x.undo(), -3);
        });
        test("Terms, Changes: of 9 changes the first one cannot be undone", () -> {
            DrownedBells x = new DrownedBells();
            x.hang(1, 9);
            for (int many = 1; many <= 8; many++) {
                x.hang(0, 1 + many);
            }
            due("account(9)", x.account(9), 8);
            for (int many = 7; many >= 0; many--) {
                due("undo", x.undo(), many);
            }
            due("undo of the first one", x.undo(), -3);
            due("depth of a", x.bellOf(0, 0), 1);
            due("depth of b", x.bellOf(1, 0), 9);
        });
        test("Terms, Changes: of 30 changes the latest 8 can be undone, the latest one first", () -> {
            DrownedBells x = new DrownedBells();
            for (int many = 1; many <= 30; many++) {
                x.hang(many % 5, 1 + (many + 4) / 5);
            }
            for (int many = 30; many > 22; many--) {
                due("depth", x.bellOf(many % 5, 0), 1 + (many + 4) / 5);
                due("undo", x.undo(), many - 23);
                due("depth before", x.bellOf(many % 5, 0), (many + 4) / 5);
            }
            due("undo of none", x.undo(), -3);
            due("depth", x.bellOf(22 % 5, 0), 1 + (22 + 4) / 5);
        });
        test("Terms, Changes: a change that was undone does not count any more", () -> {
            DrownedBells x = new DrownedBells();
            for (int many = 1; many <= 8; many++) {
                x.hang(0, 1 + many);
            }
            x.undo();
            x.undo();
            x.undo();
            due("account(9)", x.account(9), 5);
            x.hang(1, 9);
            due("account(9)", x.account(9), 6);
            due("undo", x.undo(), 5);
            due("depth of b", x.bellOf(1, 0), 1);
            due("depth of a", x.bellOf(0, 0), 6);
            due("undo", x.undo(), 4);
            due("depth of a", x.bellOf(0, 0), 5);
        });
        test("Terms, Changes: an older change than the latest 8 does not come back when later ones are undone", () -> {
            DrownedBells x = new DrownedBells();
            for (int many = 1; many <= 12; many++) {
                x.hang(0, 1 + many % 2);
            }
            due("undo", x.undo(), 7);
            due("undo", x.undo(), 6);
            x.hang(1, 2);
            due("account(9)", x.account(9), 7);
        });
    }

    private static void notUndone() {
        test("Terms, Changes: the draft is not undone", () -> {
            DrownedBells x = new DrownedBells();
            word(x, 0, "ab");
            x.undo();
            due("the draft that word took", x.account(7), 0);
            ring(x, "abc");
            x.undo();
            due("the draft that ring took", x.account(7), 0);
            x.hang(0, 2);
            lay(x, "abcd");
            x.undo();
            due("signs that were laid later", x.account(7), 4);
            due("the same signs", word(x, 0, ""), 0);
            due("book", bookLine(x), "n:abcd");
        });
        test("Terms, Changes: the input is not undone", () -> {
            DrownedBells x = new DrownedBells();
            read(x, "hang a 2");
            x.undo();
            due("the input that was read", x.account(8), 0);
            x.hang(0, 3);
            append(x, "hang b");
            x.undo();
            due("characters that were appended later", x.account(8), 6);
            due("read", read(x, " 4"), 1);
        });
        test("Terms, Changes: the fault position is not undone", () -> {
            DrownedBells x = new DrownedBells();
            x.hang(0, 2);
            read(x, "hang ?");
            x.undo();
            due("fault", x.fault(), 5);
        });
        test("Terms, Changes: the latest reason is not undone", () -> {
            DrownedBells x = new DrownedBells();
            x.hang(0, 2);
            read(x, "hang a 2");
            x.undo();
            due("reasons", reasons(x), "7:0<2:2");
        });
        test("Terms, Changes: the line is not undone", () -> {
            DrownedBells x = withBook();
            x.writeBook();
            x.undo();
            due("line", line(x), "n:ab d:c t:a.e t:d");
        });
    }

    private static void notSaved() {
        test("Terms, Changes: the draft is not saved", () -> {
            DrownedBells x = lay(new DrownedBells(), "abc");
            x.save();
            x.lay('d');
            x.restore();
            due("signs", x.account(7), 4);
            due("word", x.word(0), 0);
            x.restore();
            due("signs", x.account(7), 0);
        });
        test("Terms, Changes: the input is not saved", () -> {
            DrownedBells x = append(new DrownedBells(), "go");
            x.save();
            append(x, " 0");
            x.restore();
            due("characters", x.account(8), 4);
            x.read();
            x.restore();
            due("characters", x.account(8), 0);
        });
        test("Terms, Changes: the fault position is not saved", () -> {
            DrownedBells x = new DrownedBells();
            x.save();
            read(x, "go x");
            x.restore();
            due("fault", x.fault(), 3);
            x.save();
            read(x, "x");
            x.restore();
            due("fault", x.fault(), 0);
        });
        test("Terms, Changes: the latest reason is not saved", () -> {
            DrownedBells x = new DrownedBells();
            x.save();
            x.splice(3);
            x.restore();
            due("reasons", reasons(x), "3:3<-6:-6");
        });
        test("Terms, Changes: the line is not saved", () -> {
            DrownedBells x = new DrownedBells();
            x.save();
            word(x, 0, "a");
            x.writeBook();
            x.restore();
            due("line", line(x), "n:a");
        });
    }

    private static void dueNothingElse(String call, DrownedBells x, String before, int answer, int want) {
        due(call, answer, want);
        due("everything after " + call, everything(x), before);
    }

    private static DrownedBells villageWithAll() {
        DrownedBells x = village();
        x.writeBook();
        read(x, "hang ?");
        x.splice(4);
        return append(lay(x, "a.b"), "go");
    }

    private static void errors() {
        test("Terms, Changes: hang and splice change nothing if they return an error", () -> {
            DrownedBells x = villageWithAll();
            String before = everything(x);
            dueNothingElse("hang(5, 2)", x, before, x.hang(5, 2), -1);
            dueNothingElse("hang(0, 10)", x, before, x.hang(0, 10), -2);
            dueNothingElse("splice(5)", x, before, x.splice(5), -1);
        });
        test("Terms, Changes: lay and strike change nothing if they return an error", () -> {
            DrownedBells x = villageWithAll();
            String before = everything(x);
            dueNothingElse("lay('f')", x, before, x.lay('f'), -2);
            dueNothingElse("strike(4)", x, before, x.strike(4), -1);
        });
        test("Terms, Changes: word changes nothing if it returns BAD", () -> {
            DrownedBells x = villageWithAll();
            String before = everything(x);
            dueNothingElse("word(3)", x, before, x.word(3), -2);
            dueNothingElse("word(-1)", x, before, x.word(-1), -2);
        });
        test("Terms, Changes: swim changes nothing if it returns BAD", () -> {
            DrownedBells x = villageWithAll();
            String before = everything(x);
            dueNothingElse("swim(0, 0)", x, before, x.swim(0, 0), -2);
            dueNothingElse("swim(1, 10)", x, before, x.swim(1, 10), -2);
        });
        test("Terms, Changes: dive and go change nothing if they return an error", () -> {
            DrownedBells x = villageWithAll();
            String before = everything(x);
            dueNothingElse("dive(2, 1)", x, before, x.dive(2, 1), -1);
            dueNothingElse("dive(0, 0)", x, before, x.dive(0, 0), -2);
            dueNothingElse("go(2)", x, before, x.go(2), -1);
        });
        test("Terms, Changes: append, undo and restore change nothing if they return an error", () -> {
            DrownedBells x = append(new DrownedBells(), "go");
            String before = everything(x);
            dueNothingElse("append", x, before, x.append((char) 31), -2);
            dueNothingElse("undo", x, before, x.undo(), -3);
            dueNothingElse("restore", x, before, x.restore(), -3);
        });
        test("Terms, Changes: a full draft and a full input change nothing", () -> {
            DrownedBells x = append(lay(new DrownedBells(), "e".repeat(20)), "ring a;".repeat(8) + "ring");
            String before = everything(x);
            dueNothingElse("lay", x, before, x.lay('a'), -4);
            dueNothingElse("append", x, before, x.append(' '), -4);
            due("read", x.read(), -2);
            due("fault, the 61st character is not there", x.fault(), 60);
        });
        test("Terms, Changes: a call that is refused changes nothing but the reason", () -> {
            DrownedBells x = village();
            x.splice(1);
            String before = state(x);
            due("hang", x.hang(0, 1), -5);
            due("splice", x.splice(4), -5);
            due("word", word(x, 0, "ab"), -5);
            due("dive", x.dive(0, 4), -5);
            due("state", state(x), before);
            lay(x, "abcdeabcdeabc");
            due("ring", x.ring(), -5);
            due("state", state(x), before);
            due("signs of the draft", x.account(7), 15);
        });
        test("Terms, Changes: read of a text with a fault changes nothing but the input and the fault position", () -> {
            DrownedBells x = villageWithAll();
            String before = state(x) + x.account(7) + " " + x.account(9) + " " + line(x) + " " + reasons(x);
            due("read", read(x, " 0;hang a 9;ring"), -2);
            due("the rest", state(x) + x.account(7) + " " + x.account(9) + " " + line(x) + " " + reasons(x), before);
            due("input", x.account(8), 0);
            due("fault", x.fault(), 18);
        });
        test("Terms, Changes: read of a text that is refused changes nothing but the input and the reason", () -> {
            DrownedBells x = villageWithAll();
            String before = state(x) + x.account(7) + " " + x.account(9) + " " + line(x) + " " + x.fault();
            dueRefused(x, "read", read(x, " 0;hang a 9;ring a;word n ab"), "7:3<2:0");
            due("the rest", state(x) + x.account(7) + " " + x.account(9) + " " + line(x) + " " + x.fault(), before);
            due("input", x.account(8), 0);
        });
        test("Terms, Changes: a peal that is not there changes no line", () -> {
            DrownedBells x = villageWithAll();
            due("write(1)", x.write(1), -1);
            due("write(-1)", x.write(-1), -1);
            due("line", line(x), "n:ab d:c t:a.e t:d");
        });
    }

    private static void firstError() {
        test("Terms, Changes: the first error that is named is returned, NONE ahead of BAD", () -> {
            DrownedBells x = new DrownedBells();
            due("hang(5, 0)", x.hang(5, 0), -1);
            due("dive(0, 0)", x.dive(0, 0), -1);
            due("bellOf(5, 5)", x.bellOf(5, 5), -1);
            due("wordOf(0, 3)", x.wordOf(0, 3), -1);
            due("swimmerOf(0, 4)", x.swimmerOf(0, 4), -1);
            due("echoes(0, 0)", x.echoes(0, 0), -1);
        });
        test("Terms, Changes: the first error that is named is returned, BAD ahead of FULL and REFUSED", () -> {
            DrownedBells x = append(lay(new DrownedBells(), "e".repeat(20)), "r".repeat(60));
            due("lay to a full draft", x.lay('f'), -2);
            due("append to a full input", x.append('\n'), -2);
            due("word of 20 signs", x.word(3), -2);
            due("no reason", x.reason(0, false), -3);
        });
        test("Terms, Changes: the first error that is named is returned, BAD ahead of STATE", () -> {
            DrownedBells x = new DrownedBells();
            due("reason(2, false)", x.reason(2, false), -2);
            due("reason(-1, true)", x.reason(-1, true), -2);
        });
        test("Terms, Changes: the first error that is named is returned, NOTHING ahead of the second NONE", () -> {
            DrownedBells x = new DrownedBells();
            ring(x, "a");
            due("said(1, 99)", x.said(1, 99), -1);
            due("said(0, 99)", x.said(0, 99), -6);
        });
    }

    private static void draft() {
        test("Terms, The draft: it is empty at first", () -> {
            DrownedBells x = new DrownedBells();
            due("account(7)", x.account(7), 0);
            due("draftParses()", x.draftParses(), 0);
        });
        test("Terms, The draft: it holds 20 signs, and no 21st", () -> {
            DrownedBells x = lay(new DrownedBells(), "ab.".repeat(6) + "c");
            due("the 20th", x.lay('d'), 20);
            due("the 21st", x.lay('d'), -4);
            due("account(7)", x.account(7), 20);
        });
        test("Terms, The draft: word takes it, in its order, and makes it empty", () -> {
            DrownedBells x = lay(new DrownedBells(), "b.ea");
            due("word", x.word(0), 0);
            due("signs", x.account(7), 0);
            due("book", bookLine(x), "n:b.ea");
            due("the next sign is the first one", x.lay('c'), 1);
        });
        test("Terms, The draft: ring takes it, in its order, and makes it empty", () -> {
            DrownedBells x = lay(new DrownedBells(), ".b.ea.");
            due("ring", x.ring(), 3);
            due("signs", x.account(7), 0);
            due("peal", peal(x, 0), ".b.ea.");
        });
        test("Terms, The draft: word that is refused leaves it", () -> {
            DrownedBells x = lay(new DrownedBells(), "ab.");
            due("word", x.word(0), -5);
            due("signs", x.account(7), 3);
            x.lay('c');
            due("word", x.word(0), 0);
            due("book", bookLine(x), "n:ab.c");
        });
        test("Terms, The draft: word of a wrong kind leaves it", () -> {
            DrownedBells x = lay(new DrownedBells(), "ab");
            due("word", x.word(3), -2);
            due("word", x.word(2), 0);
            due("book", bookLine(x), "t:ab");
        });
        test("Terms, The draft: ring that is refused leaves it", () -> {
            DrownedBells x = lay(new DrownedBells(), "..");
            due("ring", x.ring(), -5);
            x.lay('a');
            due("ring", x.ring(), 1);
            due("peal", peal(x, 0), "..a");
        });
        test("Terms, The draft: read leaves it, whatever it returns", () -> {
            DrownedBells x = lay(new DrownedBells(), "ab");
            due("read", read(x, "word n e;ring dd"), 2);
            due("signs", x.account(7), 2);
            due("read", read(x, "word n e;ring dd"), -5);
            due("signs", x.account(7), 2);
            due("read", read(x, "word"), -2);
            due("word", x.word(0), 1);
            due("book", bookLine(x), "n:e n:ab");
        });
        test("Terms, The draft: a text takes its own signs, also if the draft is full", () -> {
            DrownedBells x = lay(new DrownedBells(), "e".repeat(20));
            due("read", read(x, "word n ab;ring abc"), 2);
            due("book", bookLine(x), "n:ab");
            due("peal", peal(x, 0), "abc");
            due("signs", x.account(7), 20);
        });
        test("Terms, The draft: what is asked of it leaves it", () -> {
            DrownedBells x = lay(withBook(), "abc");
            due("draftParses()", x.draftParses(), 1);
            due("draftParses()", x.draftParses(), 1);
            due("account(7)", x.account(7), 3);
            due("account(7)", x.account(7), 3);
            due("ring", x.ring(), 3);
            due("peal", peal(x, 0), "abc");
        });
        test("Terms, The draft: what is asked of peals leaves it", () -> {
            DrownedBells x = withBook();
            x.swim(1, 1);
            ring(x, "abcd");
            lay(x, "ee.e");
            x.parses(0);
            x.parsesAgain(0);
            x.understands(0, 0);
            x.echoes(0, 1);
            x.write(0);
            x.isCounted();
            due("ring", x.ring(), 3);
            due("peal", peal(x, 0), "ee.e");
        });
    }

    private static void inDoubtOfCommands() {
        test("Terms, In doubt: numbers of a command are looked at ahead of its reasons", () -> {
            DrownedBells x = new DrownedBells();
            for (int swimmer = 0; swimmer < 6; swimmer++) {
                x.swim(1, 1);
            }
            dueRefused(x, "swim 0 1 as a 7th", read(x, "swim 0 1"), "7:0<-6:-6");
            due("the call of it", x.swim(0, 1), -2);
            due("the call of it", x.swim(1, 10), -2);
        });
        test("Terms, In doubt: a kind is looked at ahead of the reasons of word", () -> {
            DrownedBells x = new DrownedBells();
            due("no signs", x.word(3), -2);
            lay(x, ".");
            due("a silence", x.word(-1), -2);
            due("reason", x.reason(0, false), -3);
        });
        test("Terms, In doubt: a depth is looked at ahead of the reasons of hang and dive", () -> {
            DrownedBells x = new DrownedBells();
            x.swim(1, 1);
            due("hang(0, 0)", x.hang(0, 0), -2);
            due("dive(0, 10)", x.dive(0, 10), -2);
            due("reason", x.reason(0, false), -3);
        });
        test("Terms, In doubt: a word that there is not, in a command, is a number out of range", () -> {
            DrownedBells x = withBook();
            dueRefused(x, "strike 4", read(x, "strike 4"), "7:0<-6:-6");
            dueRefused(x, "strike 3 twice", read(x, "strike 3;strike 3"), "7:1<-6:-6");
            due("words", x.account(0), 4);
        });
        test("Terms, In doubt: a swimmer that there is not, in a command, is a number out of range", () -> {
            DrownedBells x = new DrownedBells();
            dueRefused(x, "go 0", read(x, "go 0"), "7:0<-6:-6");
            dueRefused(x, "dive 0 5", read(x, "dive 0 5"), "7:0<-6:-6");
            dueRefused(x, "dive 1 5", read(x, "swim 4 4;dive 1 5"), "7:1<-6:-6");
            dueRefused(x, "go 0 twice", read(x, "swim 4 4;go 0;go 0"), "7:2<-6:-6");
        });
    }

    private static void inDoubtOfPeals() {
        test("Terms, In doubt: a bell that rings several times in a peal wears its rope each time", () -> {
            DrownedBells x = new DrownedBells();
            due("ring", ring(x, "eabe.e"), 5);
            due("wear of e", x.bellOf(4, 1), 3);
            due("wear of a", x.bellOf(0, 1), 1);
        });
        test("Terms, In doubt: a bell can fall silent within a peal, at its 10th pull", () -> {
            DrownedBells x = new DrownedBells();
            due("ring", ring(x, "eeeeeeeeeeee"), 9);
            due("peal", peal(x, 0), "eeeeeeeee...");
        });
        test("Terms, In doubt: bells fall silent each by its own rope", () -> {
            DrownedBells x = new DrownedBells();
            ring(x, "aaaaaaaabbbb");
            due("ring", ring(x, "abababababab"), 6);
            due("peal", peal(x, 0), "ab.b.b.b.b..");
        });
        test("Terms, In doubt: a peal in which no bell would ring is refused, and wears nothing", () -> {
            DrownedBells x = new DrownedBells();
            ring(x, "aaaaaaaaa");
            String before = state(x);
            due("of silences", ring(x, "............"), -5);
            due("state", state(x), before);
            DrownedBells y = new DrownedBells();
            ring(y, "aaaaaaaaa");
            due("of a worn bell", ring(y, "a.a"), -5);
            due("state", state(y), before);
        });
        test("Terms, In doubt: a peal in which one bell rings is not refused", () -> {
            DrownedBells x = new DrownedBells();
            ring(x, "aaaaaaaaa");
            due("the last sign", ring(x, "a.a.a.a.a.ab"), 1);
            due("peal", peal(x, 0), "...........b");
            due("the first sign", ring(x, "baaaaaaaaaaa"), 1);
        });
        test("Terms, In doubt: bells that ring several times in a peal count each time", () -> {
            DrownedBells x = new DrownedBells();
            due("ring", ring(x, "aa.ba"), 4);
            due("bellOf(0, 2)", x.bellOf(0, 2), 3);
            due("bellOf(1, 2)", x.bellOf(1, 2), 1);
            due("account(4)", x.account(4), 4);
        });
        test("Terms, In doubt: bells that fall silent several times in a peal count each time", () -> {
            DrownedBells x = new DrownedBells();
            ring(x, "aaaaaaaa");
            due("ring", ring(x, "aa.aba"), 2);
            due("account(5)", x.account(5), 3);
        });
        test("Terms, In doubt: a silence of the peal itself is no bell that falls silent", () -> {
            DrownedBells x = new DrownedBells();
            ring(x, "..a..");
            due("account(5)", x.account(5), 0);
        });
    }

    private static void inDoubtOfParses() {
        test("Terms, In doubt: silences within a word belong to it and are not others", () -> {
            DrownedBells x = book("n:a.b", "d:c..d");
            dueParses(x, "a.b.c..d", 1);
            due("silences(0)", x.silences(0), 1);
            dueParses(x, "a..bc..d", 0);
            dueParses(x, "abc..d", 0);
            dueParses(x, "a.bc.d", 0);
        });
        test("Terms, In doubt: two partings with another word at one place are unlike", () ->
            dueParses(book("n:a", "d:b", "t:c.c", "t:c"), "abc.c", 2));
        test("Terms, In doubt: two partings with the same words at other places are unlike", () -> {
            DrownedBells x = book("n:a", "d:b", "t:c", "t:cc");
            dueParses(x, "abccc", 3);
        });
        test("Terms, In doubt: silences between words make no parting of their own", () ->
            dueParses(withBook(), "ab...c...d", 1));
        test("Terms, In doubt: two parses of which one has more words are unlike", () ->
            dueParses(book("n:a", "d:b", "t:cd", "t:c", "t:d"), "abcd", 2));
        test("Terms, In doubt: a peal that begins with a silence has no parse", () -> {
            dueParses(withBook(), ".abc", 0);
            dueParses(withBook(), "...abcd", 0);
        });
        test("Terms, In doubt: a peal that ends with a silence has no parse", () -> {
            dueParses(withBook(), "abc.", 0);
            dueParses(withBook(), "abcd...", 0);
        });
        test("Terms, In doubt: what is heard, if it begins or ends with a silence, has no parse", () -> {
            DrownedBells x = book("n:b", "d:c");
            x.hang(0, 9);
            x.swim(1, 0);
            ring(x, "abc");
            due("heard", heard(x, 0, 0), ".bc");
            due("understands(0, 0)", x.understands(0, 0), 0);
            ring(x, "bca");
            due("heard", heard(x, 0, 0), "bc.");
            due("understands(0, 0)", x.understands(0, 0), 0);
            ring(x, "bac");
            due("heard", heard(x, 0, 0), "b.c");
            due("understands(0, 0)", x.understands(0, 0), 2);
        });
        test("Terms, In doubt: an echo, if it ends with a silence, has no parse", () -> {
            DrownedBells x = book("n:a", "d:b");
            ring(x, "ab..");
            due("echoes(0, 4)", x.echoes(0, 4), 0);
        });
        test("Terms, In doubt: the same words one behind the other are the same, with silences between or without", () -> {
            DrownedBells x = withBook();
            x.swim(1, 0);
            ring(x, "abcdd");
            ring(x, "ab..c.d..d");
            due("abcdd", x.understands(0, 1), 1);
            due("ab..c.d..d", x.understands(0, 0), 1);
            due("said", saying(x, 0), saying(x, 1));
        });
        test("Terms, In doubt: as many words, of which the name is another one, are not the same", () ->
            dueMisunderstood("dedab", "d.dab", "n:ded", "n:d.d", "d:a", "t:b"));
        test("Terms, In doubt: as many words, of which the deed is another one, are not the same", () ->
            dueMisunderstood("adedb", "ad.db", "d:ded", "d:d.d", "n:a", "t:b"));
        test("Terms, In doubt: as many words, of which the last thing is another one, are not the same", () ->
            dueMisunderstood("abded", "abd.d", "t:ded", "t:d.d", "n:a", "d:b"));
        test("Terms, In doubt: the same words and one more are not the same", () -> {
            DrownedBells x = book("n:a", "d:b", "t:ded", "t:d");
            x.hang(4, 9);
            x.swim(1, 1);
            ring(x, "abded");
            due("said", saying(x, 0), "0 1 2");
            due("heard abd.d, a thing twice", x.understands(0, 0), 2);
        });
        test("Terms, In doubt: the same words and one less are not the same", () -> {
            DrownedBells x = book("n:a", "d:b", "t:c", "t:e");
            x.hang(4, 9);
            x.swim(1, 1);
            ring(x, "abcec");
            due("said", saying(x, 0), "0 1 2 3 2");
            due("heard abc.c", x.understands(0, 0), 2);
            ring(x, "abec");
            due("heard ab.c, the thing in between is missing", x.understands(0, 0), 2);
        });
    }

    /** The bell e is too deep to be heard; the peal means something, and so does what is heard of it. */
    private static void dueMisunderstood(String signs, String heard, String... words) {
        DrownedBells x = book(words);
        x.hang(4, 9);
        x.swim(1, 1);
        ring(x, heard);
        ring(x, signs);
        due("heard", heard(x, 0, 0), heard);
        due("parses of " + signs, x.parses(0), 1);
        due("parses of " + heard, x.parses(1), 1);
        due("understands(0, 0)", x.understands(0, 0), 2);
        due("understands(0, 1)", x.understands(0, 1), 1);
        due("needs(0, 0)", x.needs(0, 0), 8);
    }

    private static void inDoubtOfNow() {
        test("Terms, In doubt: a peal is parsed by the book as it is now", () -> {
            DrownedBells x = new DrownedBells();
            ring(x, "ab");
            due("without words", x.parses(0), 0);
            word(x, 0, "a");
            word(x, 1, "b");
            due("with both words", x.parses(0), 1);
            due("said", saying(x, 0), "0 1");
            x.strike(0);
            due("without the name", x.parses(0), 0);
            word(x, 0, "a");
            due("with other numbers", saying(x, 0), "1 0");
        });
        test("Terms, In doubt: a peal is heard by bells as they are now", () -> {
            DrownedBells x = new DrownedBells();
            x.swim(1, 3);
            ring(x, "ab");
            x.hang(0, 5);
            due("heard", heard(x, 0, 0), ".b");
            x.hang(0, 4);
            due("heard", heard(x, 0, 0), "ab");
        });
        test("Terms, In doubt: a peal is heard by swimmers as they are now, also by one that came later", () -> {
            DrownedBells x = new DrownedBells();
            ring(x, "ab");
            x.swim(5, 3);
            due("heard", heard(x, 0, 0), "..");
            x.dive(0, 4);
            due("heard", heard(x, 0, 0), "ab");
        });
        test("Terms, In doubt: a worn rope does not silence a peal that is kept", () -> {
            DrownedBells x = new DrownedBells();
            x.swim(1, 9);
            ring(x, "aaaaaaaaa");
            due("heard", heard(x, 0, 0), "aaaaaaaaa");
        });
    }

    private static void constants() {
        test("Terms, The constants: NONE is -1", () -> due("NONE", DrownedBells.NONE, -1));
        test("Terms, The constants: BAD is -2", () -> due("BAD", DrownedBells.BAD, -2));
        test("Terms, The constants: STATE is -3", () -> due("STATE", DrownedBells.STATE, -3));
        test("Terms, The constants: FULL is -4", () -> due("FULL", DrownedBells.FULL, -4));
        test("Terms, The constants: REFUSED is -5", () -> due("REFUSED", DrownedBells.REFUSED, -5));
        test("Terms, The constants: NOTHING is -6", () -> due("NOTHING", DrownedBells.NOTHING, -6));
    }

    private static void notPromised() {
        test("Not promised: what an object answers after its 512th call is free, but it throws nothing", () -> {
            DrownedBells x = withBook();
            int[] numbers = {LEAST, -1, 0, 1, 4, 5, 9, 12, 13, MOST};
            for (int round = 0; round < 12; round++) {
                for (int a : numbers) {
                    for (int b : numbers) {
                        callAll(x, a, b);
                    }
                }
            }
        });
    }

    private static void callAll(DrownedBells x, int a, int b) {
        x.hang(a, b);
        x.splice(a);
        x.lay("abcde.?".charAt(Math.floorMod(a + b, 7)));
        x.word(a);
        x.strike(b);
        x.swim(a, b);
        x.dive(a, b);
        x.go(b);
        x.ring();
        x.bellOf(a, b);
        x.wordOf(a, b);
        x.swimmerOf(a, b);
        x.parses(a);
        x.parsesAgain(b);
        x.draftParses();
        x.said(a, b);
        x.silences(a);
        x.signOf(a, b);
        x.hears(a, b, a);
        x.understands(a, b);
        x.needs(a, b);
        x.echoes(a, b);
        x.ranked(a);
        x.worn(b);
        x.listed(a);
        x.isCounted();
        x.meanWear();
        x.meantShare();
        x.account(b);
        x.write(a);
        x.writeBook();
        x.written(b);
        x.append("hang 3;".charAt(Math.floorMod(a + b, 7)));
        x.read();
        x.fault();
        x.reason(a, b > 0);
        x.undo();
        x.save();
        x.restore();
    }
}
