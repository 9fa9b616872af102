/** Promises 30 to 40: for each sentence that names a boundary case a test of its own, with the promise's number in its name. */
public final class EdgesOfPromises30To40Test extends Checks {
    private static final int LEAST = Integer.MIN_VALUE;
    private static final int MOST = Integer.MAX_VALUE;

    public static void main(String[] args) {
        account();
        accountSoFar();
        write();
        writeBook();
        written();
        append();
        read();
        fault();
        reason();
        undo();
        save();
        restore();
        close();
    }

    private static void account() {
        test("promise 30: account 0 is how many words, from 0 to 8", () -> {
            DrownedBells x = new DrownedBells();
            String[] signs = {"a", "b", "c", "d", "e", "aa", "bb", "cc"};
            for (int words = 0; words < 8; words++) {
                due("account(0)", x.account(0), words);
                word(x, 0, signs[words]);
            }
            due("account(0)", x.account(0), 8);
            word(x, 0, "dd");
            due("account(0)", x.account(0), 8);
            x.strike(0);
            due("account(0)", x.account(0), 7);
        });
        test("promise 30: account 1 is how many swimmers, from 0 to 6", () -> {
            DrownedBells x = new DrownedBells();
            for (int swimmers = 0; swimmers < 8; swimmers++) {
                due("account(1)", x.account(1), Math.min(swimmers, 6));
                x.swim(1, 1);
            }
            x.go(0);
            due("account(1)", x.account(1), 5);
        });
        test("promise 30: account 2 is how many peals are kept, from 0 to 5", () -> {
            DrownedBells x = new DrownedBells();
            for (int peals = 0; peals < 8; peals++) {
                due("account(2)", x.account(2), Math.min(peals, 5));
                ring(x, "a");
            }
        });
        test("promise 30: account 6 is the wear of all ropes, from 0 to 45", () -> {
            DrownedBells x = new DrownedBells();
            due("account(6)", x.account(6), 0);
            for (int bell = 0; bell <= 4; bell++) {
                ring(x, String.valueOf((char) ('a' + bell)).repeat(12));
                due("account(6)", x.account(6), 9 * (bell + 1));
            }
            x.splice(4);
            due("account(6)", x.account(6), 36);
        });
        test("promise 30: account 7 is how many signs the draft has, from 0 to 20", () -> {
            DrownedBells x = new DrownedBells();
            for (int signs = 0; signs <= 21; signs++) {
                due("account(7)", x.account(7), Math.min(signs, 20));
                x.lay('.');
            }
        });
        test("promise 30: account 8 is how many characters the input has, from 0 to 60", () -> {
            DrownedBells x = new DrownedBells();
            for (int characters = 0; characters <= 61; characters++) {
                due("account(8)", x.account(8), Math.min(characters, 60));
                x.append('~');
            }
            x.read();
            due("account(8)", x.account(8), 0);
        });
        test("promise 30: account 9 is how many changes can be undone, from 0 to 8", () -> {
            DrownedBells x = new DrownedBells();
            for (int changes = 0; changes <= 10; changes++) {
                due("account(9)", x.account(9), Math.min(changes, 8));
                x.hang(0, 1 + (changes + 1) % 2);
            }
            x.undo();
            due("account(9)", x.account(9), 7);
        });
        test("promise 30: account returns BAD if what is less than 0 or more than 9", () -> {
            for (int what : new int[] {-1, 10, LEAST, MOST}) {
                due("account(" + what + ")", new DrownedBells().account(what), -2);
            }
        });
    }

    private static void accountSoFar() {
        test("promise 30: account 3 is how many peals were rung so far, also those that are not kept", () -> {
            DrownedBells x = new DrownedBells();
            for (int peals = 0; peals < 8; peals++) {
                due("account(3)", x.account(3), peals);
                ring(x, "a");
            }
            x.ring();
            due("a peal that is refused", x.account(3), 8);
            x.undo();
            due("a peal that is undone", x.account(3), 7);
        });
        test("promise 30: account 4 is how often bells rang so far, over splices, in peals that are kept and others", () -> {
            DrownedBells x = new DrownedBells();
            for (int peals = 0; peals < 8; peals++) {
                due("account(4)", x.account(4), 3 * peals);
                ring(x, "ab.a");
                x.splice(0);
            }
            ring(x, "...");
            due("a peal that is refused", x.account(4), 24);
        });
        test("promise 30: account 5 is how many bells fell silent so far, each time, in peals that are kept and others", () -> {
            DrownedBells x = new DrownedBells();
            ring(x, "aaaaaaaaa");
            due("the 9th pull", x.account(5), 0);
            for (int peals = 1; peals <= 7; peals++) {
                ring(x, "a.ab");
                due("account(5)", x.account(5), 2 * peals);
            }
            ring(x, "aaa");
            due("a peal that is refused", x.account(5), 14);
            x.undo();
            due("a peal that is undone", x.account(5), 12);
        });
        test("promise 30: accounts of a text that is refused are as before", () -> {
            DrownedBells x = new DrownedBells();
            ring(x, "aaaaaaaaaa");
            due("read", read(x, "ring aab;ring aab;ring a"), -5);
            int[] due = {0, 0, 1, 1, 9, 1, 9, 0, 0, 1};
            for (int what = 0; what <= 9; what++) {
                due("account(" + what + ")", x.account(what), due[what]);
            }
        });
    }

    private static void write() {
        test("promise 31: write of a peal that means nothing writes its signs alone", () -> {
            DrownedBells x = withBook();
            ring(x, ".ab.");
            due("write(0)", x.write(0), 4);
            due("line", line(x), ".ab.");
            ring(x, "e");
            due("write(0)", x.write(0), 1);
            due("line", line(x), "e");
        });
        test("promise 31: write of a peal with two parses writes its signs alone", () -> {
            DrownedBells x = book("n:b", "d:c", "t:a", "t:aa");
            ring(x, "bcaa");
            due("write(0)", x.write(0), 4);
            due("line", line(x), "bcaa");
        });
        test("promise 31: write of a peal that means something writes its words behind, each of a kind", () -> {
            DrownedBells x = withBook();
            ring(x, "abc");
            due("write(0)", x.write(0), 9);
            due("line", line(x), "abc=n0 d1");
            ring(x, "ab.c.a.ed");
            due("write(0)", x.write(0), 21);
            due("line", line(x), "ab.c.a.ed=n0 d1 t2 t3");
        });
        test("promise 31: write of 12 words, the longest line", () -> {
            DrownedBells x = book("t:c", "t:d", "t:ee", "t:e", "t:aa", "t:bb", "d:b", "n:a");
            ring(x, "abcdcdcdcdcd");
            due("write(0)", x.write(0), 48);
            due("line", line(x), "abcdcdcdcdcd=n7 d6 t0 t1 t0 t1 t0 t1 t0 t1 t0 t1");
        });
        test("promise 31: write of each peal that is kept, and as it was rung", () -> {
            DrownedBells x = new DrownedBells();
            for (String signs : new String[] {"aaaaaaaaaa", "ab", "c.c", ".d.", "e"}) {
                ring(x, signs);
            }
            String[] due = {"e", ".d.", "c.c", ".b", "aaaaaaaaa."};
            for (int peal = 0; peal <= 4; peal++) {
                due("line", pealLine(x, peal), due[peal]);
            }
        });
        test("promise 31: write is in place of the line before, also if that was longer", () -> {
            DrownedBells x = withBook();
            ring(x, "a");
            x.writeBook();
            due("write(0)", x.write(0), 1);
            due("line", line(x), "a");
            due("written(1)", x.written(1), -1);
        });
        test("promise 31: write returns NONE if there is no such peal, and leaves the line", () -> {
            due("of none", new DrownedBells().write(0), -1);
            for (int peal : new int[] {-1, 1, 4, 5, LEAST, MOST}) {
                DrownedBells x = withBook();
                ring(x, "e");
                x.writeBook();
                due("write(" + peal + ")", x.write(peal), -1);
                due("line", line(x), "n:ab d:c t:a.e t:d");
            }
        });
        test("promise 31: write tells words by the book as it is now", () -> {
            DrownedBells x = book("t:e", "n:a", "d:b");
            ring(x, "ab");
            due("line", pealLine(x, 0), "ab=n1 d2");
            x.strike(0);
            due("line", pealLine(x, 0), "ab=n0 d1");
            x.strike(0);
            due("line", pealLine(x, 0), "ab");
        });
    }

    private static void writeBook() {
        test("promise 32: writeBook without words writes an empty line", () -> {
            DrownedBells x = new DrownedBells();
            ring(x, "abc");
            x.write(0);
            due("writeBook()", x.writeBook(), 0);
            due("written(0)", x.written(0), -1);
        });
        test("promise 32: writeBook of one word has no blank", () -> {
            DrownedBells x = book("d:e");
            due("writeBook()", x.writeBook(), 3);
            due("line", line(x), "d:e");
        });
        test("promise 32: writeBook writes each kind, with a blank between two words", () -> {
            DrownedBells x = book("n:ab", "d:c", "t:a.e");
            due("writeBook()", x.writeBook(), 14);
            due("line", line(x), "n:ab d:c t:a.e");
        });
        test("promise 32: writeBook of 8 words of 4 signs, the longest line", () -> {
            DrownedBells x = book("n:aaaa", "d:b..b", "t:cccc", "n:dede", "d:eeee", "t:e.ee", "n:ee.e", "d:abcd");
            due("writeBook()", x.writeBook(), 55);
            due("line", line(x), "n:aaaa d:b..b t:cccc n:dede d:eeee t:e.ee n:ee.e d:abcd");
        });
        test("promise 32: writeBook is in place of the line before, also if that was longer", () -> {
            DrownedBells x = book("n:a", "d:b");
            ring(x, "a........b");
            x.write(0);
            due("writeBook()", x.writeBook(), 7);
            due("line", line(x), "n:a d:b");
        });
    }

    private static void written() {
        test("promise 33: written returns the first and the last character of the line", () -> {
            DrownedBells x = withBook();
            int length = x.writeBook();
            due("written(0)", x.written(0), 'n');
            due("written(" + (length - 1) + ")", x.written(length - 1), 'd');
        });
        test("promise 33: written returns NONE behind the line, and ahead of it", () -> {
            DrownedBells x = withBook();
            int length = x.writeBook();
            for (int index : new int[] {length, length + 1, 63, 64, 65, -1, LEAST, MOST}) {
                due("written(" + index + ")", x.written(index), -1);
            }
        });
        test("promise 33: written returns NONE if no line was written", () -> {
            for (int index : new int[] {0, 1, -1, LEAST, MOST}) {
                due("written(" + index + ")", withBook().written(index), -1);
            }
        });
        test("promise 33: written tells the line as it was written, also if the book changes then", () -> {
            DrownedBells x = withBook();
            x.writeBook();
            x.strike(0);
            due("line", line(x), "n:ab d:c t:a.e t:d");
        });
    }

    private static void append() {
        test("promise 34: append returns the length of the input then, from 1 to 60", () -> {
            DrownedBells x = new DrownedBells();
            for (int length = 1; length <= 60; length++) {
                due("append", x.append((char) (31 + length)), length);
            }
        });
        test("promise 34: append takes each character from 32 to 126", () -> {
            for (char character = 32; character <= 126; character++) {
                due("append of code " + (int) character, new DrownedBells().append(character), 1);
            }
        });
        test("promise 34: append returns BAD for 31 and less, and for 127 and more", () -> {
            DrownedBells x = new DrownedBells();
            for (char character = 0; character <= 31; character++) {
                due("append of code " + (int) character, x.append(character), -2);
            }
            for (char character = 127; character <= 300; character++) {
                due("append of code " + (int) character, x.append(character), -2);
            }
            for (char character : new char[] {0x7fff, 0x8000, 0xff20, 0xffff}) {
                due("append of code " + (int) character, x.append(character), -2);
            }
            due("account(8)", x.account(8), 0);
        });
        test("promise 34: append returns FULL if there are 60", () -> {
            DrownedBells x = append(new DrownedBells(), "x".repeat(60));
            due("append", x.append('x'), -4);
            due("append", x.append(' '), -4);
            due("account(8)", x.account(8), 60);
        });
        test("promise 34: append returns BAD ahead of FULL", () ->
            due("append", append(new DrownedBells(), "x".repeat(60)).append((char) 127), -2));
        test("promise 34: append begins again after read", () -> {
            DrownedBells x = append(new DrownedBells(), "x".repeat(60));
            x.read();
            due("append", x.append('g'), 1);
        });
    }

    private static void read() {
        test("promise 35: read returns the number of commands, from 1 to 6", () -> {
            String text = "hang a 2";
            for (int commands = 1; commands <= 6; commands++) {
                due("read", read(new DrownedBells(), text), commands);
                text += ";hang a " + (commands + 2);
            }
        });
        test("promise 35: read of an empty input returns BAD, with a fault at 0", () -> {
            DrownedBells x = new DrownedBells();
            due("read", x.read(), -2);
            due("fault", x.fault(), 0);
        });
        test("promise 35: read returns BAD, where the fault position is kept", () -> {
            DrownedBells x = new DrownedBells();
            due("read", read(x, "hang a 2;splice f"), -2);
            due("fault", x.fault(), 16);
        });
        test("promise 35: read is refused for 7", () -> {
            DrownedBells x = new DrownedBells();
            dueRefused(x, "read", read(x, "hang a 2;splice e"), "7:1<3:4");
        });
        test("promise 35: the input is empty after a text that is done", () -> {
            DrownedBells x = new DrownedBells();
            read(x, "hang a 2");
            due("account(8)", x.account(8), 0);
            due("read again", x.read(), -2);
        });
        test("promise 35: the input is empty after a text that has a fault", () -> {
            DrownedBells x = new DrownedBells();
            read(x, "hang a");
            due("account(8)", x.account(8), 0);
            due("read", read(x, " 2"), -2);
            due("fault", x.fault(), 0);
        });
        test("promise 35: the input is empty after a text that is refused", () -> {
            DrownedBells x = new DrownedBells();
            due("read", read(x, "hang a 1"), -5);
            due("account(8)", x.account(8), 0);
            due("read again", x.read(), -2);
        });
        test("promise 35: a longer text leaves nothing behind a shorter one", () -> {
            DrownedBells x = new DrownedBells();
            due("read", read(x, "ring a.b.c.d.e;hang a 2;hang b 3"), 3);
            due("read", read(x, "ring e"), 1);
            due("peal", peal(x, 0), "e");
            due("read", read(x, "hang a 3"), 1);
        });
        test("promise 35: a number out of range is no fault of the text", () -> {
            DrownedBells x = new DrownedBells();
            due("read", read(x, "hang a 0"), -5);
            due("fault", x.fault(), -3);
        });
    }

    private static void fault() {
        test("promise 36: fault returns STATE if none was kept", () -> {
            DrownedBells x = new DrownedBells();
            due("a new village", x.fault(), -3);
            read(x, "hang a 2");
            due("a text that is done", x.fault(), -3);
            read(x, "hang a 2");
            due("a text that is refused", x.fault(), -3);
        });
        test("promise 36: fault returns 0 as a position", () -> {
            DrownedBells x = new DrownedBells();
            read(x, "?");
            due("fault", x.fault(), 0);
        });
        test("promise 36: fault returns 60 as a position", () -> {
            DrownedBells x = new DrownedBells();
            read(x, "go 0;".repeat(12));
            due("fault", x.fault(), 60);
        });
        test("promise 36: fault returns the one that was kept last, also after texts without one", () -> {
            DrownedBells x = new DrownedBells();
            read(x, "hang a x");
            read(x, "go");
            due("the last one", x.fault(), 2);
            read(x, "hang a 2");
            due("after a text that is done", x.fault(), 2);
            read(x, "hang a 2");
            due("after a text that is refused", x.fault(), 2);
            due("asked again", x.fault(), 2);
        });
    }

    private static void reason() {
        test("promise 37: reason returns BAD if the depth is less than 0 or more than 1, with a reason and without", () -> {
            DrownedBells x = new DrownedBells();
            for (int round = 0; round < 2; round++) {
                for (int depth : new int[] {-1, 2, LEAST, MOST}) {
                    due("reason(" + depth + ", false)", x.reason(depth, false), -2);
                    due("reason(" + depth + ", true)", x.reason(depth, true), -2);
                }
                x.splice(0);
            }
        });
        test("promise 37: reason returns STATE if nothing was refused", () -> {
            DrownedBells x = new DrownedBells();
            x.hang(0, 0);
            x.go(0);
            x.read();
            due("reasons", reasons(x), "-3:-3<-3:-3");
        });
        test("promise 37: reason returns NOTHING if nothing lies behind, for each reason from 1 to 6", () -> {
            DrownedBells x = book("n:a", "d:b", "t:c", "t:d", "t:e", "t:aa", "t:bb", "t:cc");
            dueRefused(x, "3", x.splice(0), "3:0<-6:-6");
            dueRefused(x, "4", x.ring(), "4:0<-6:-6");
            dueRefused(x, "2", x.hang(0, 1), "2:1<-6:-6");
            dueRefused(x, "6", ring(x, "."), "6:1<-6:-6");
            dueRefused(x, "5", x.word(0), "5:0<-6:-6");
            x.lay('e');
            x.ring();
            dueRefused(x, "1", word(x, 0, "dd"), "1:8<-6:-6");
        });
        test("promise 37: reason returns NOTHING behind 7 for a number out of range, and what lies there otherwise", () -> {
            DrownedBells x = new DrownedBells();
            dueRefused(x, "a number", read(x, "hang a 0"), "7:0<-6:-6");
            dueRefused(x, "a reason", read(x, "splice a"), "7:0<3:0");
        });
        test("promise 37: reason returns a detail of 0 as a detail", () -> {
            DrownedBells x = new DrownedBells();
            x.ring();
            due("reason(0, true)", x.reason(0, true), 0);
            read(x, "word n .");
            due("reason(0, true)", x.reason(0, true), 0);
            due("reason(1, true)", x.reason(1, true), 0);
        });
    }

    private static void undo() {
        test("promise 38: undo returns STATE if there is none", () -> {
            DrownedBells x = new DrownedBells();
            due("a new village", x.undo(), -3);
            x.hang(0, 2);
            due("one", x.undo(), 0);
            due("none any more", x.undo(), -3);
            due("depth", x.bellOf(0, 0), 1);
        });
        test("promise 38: undo returns how many can still be undone, from 7 to 0", () -> {
            DrownedBells x = new DrownedBells();
            for (int change = 0; change < 9; change++) {
                x.swim(1, 1);
                x.go(0);
            }
            for (int left = 7; left >= 0; left--) {
                due("undo", x.undo(), left);
            }
            due("undo", x.undo(), -3);
        });
        test("promise 38: undo undoes the latest one, and not undo itself", () -> {
            DrownedBells x = new DrownedBells();
            x.hang(0, 2);
            x.hang(0, 3);
            x.undo();
            due("depth", x.bellOf(0, 0), 2);
            x.undo();
            due("depth", x.bellOf(0, 0), 1);
        });
        test("promise 38: undo brings back a peal that fell out as the sixth", () -> {
            DrownedBells x = new DrownedBells();
            for (String signs : new String[] {"a.b", "b", "c", "d", "e"}) {
                ring(x, signs);
            }
            ring(x, "ee");
            due("the oldest one", peal(x, 4), "b");
            x.undo();
            due("the oldest one", peal(x, 4), "a.b");
            due("the latest one", peal(x, 0), "e");
        });
        test("promise 38: undo brings back a word and a swimmer at their numbers", () -> {
            DrownedBells x = withBook();
            x.strike(1);
            x.undo();
            due("book", bookLine(x), "n:ab d:c t:a.e t:d");
            x.swim(3, 4);
            x.swim(5, 6);
            x.go(0);
            x.undo();
            due("depth of 0", x.swimmerOf(0, 0), 3);
            due("reach of 0", x.swimmerOf(0, 1), 4);
            due("depth of 1", x.swimmerOf(1, 0), 5);
        });
        test("promise 38: undo undoes a change after restore, and what was done before restore no more", () -> {
            DrownedBells x = new DrownedBells();
            x.save();
            x.hang(0, 2);
            x.restore();
            due("undo", x.undo(), -3);
            x.hang(0, 3);
            due("undo", x.undo(), 0);
            due("depth", x.bellOf(0, 0), 1);
        });
    }

    private static void save() {
        test("promise 39: save returns the number of words, from 0 to 8", () -> {
            DrownedBells x = new DrownedBells();
            String[] signs = {"a", "b", "c", "d", "e", "aa", "bb", "cc"};
            for (int words = 0; words < 8; words++) {
                due("save()", x.save(), words);
                word(x, 0, signs[words]);
            }
            due("save()", x.save(), 8);
        });
        test("promise 39: save is in place of what was saved before", () -> {
            DrownedBells x = new DrownedBells();
            x.save();
            x.hang(0, 5);
            x.save();
            x.hang(0, 6);
            x.restore();
            due("depth", x.bellOf(0, 0), 5);
        });
        test("promise 39: save leaves everything, and what can be undone", () -> {
            DrownedBells x = withBook();
            ring(x, "abc");
            String before = everything(x);
            x.save();
            due("everything", everything(x), before);
            due("undo", x.undo(), 4);
        });
        test("promise 39: save saves what stands then, not what is done later", () -> {
            DrownedBells x = withBook();
            x.swim(1, 1);
            ring(x, "abc");
            String before = state(x);
            x.save();
            for (String text : new String[] {"ring eee;strike 0;go 0", "hang a 9;word n e;swim 9 9;splice e"}) {
                due("read", read(x, text) > 0, true);
            }
            x.restore();
            due("state", state(x), before);
        });
    }

    private static void restore() {
        test("promise 40: restore returns STATE if nothing was saved", () -> {
            DrownedBells x = withBook();
            String before = everything(x);
            due("restore()", x.restore(), -3);
            due("everything", everything(x), before);
        });
        test("promise 40: restore returns the number of words, from 0 to 8", () -> {
            String[] words = {"n:a", "n:b", "n:c", "n:d", "n:e", "n:aa", "n:bb", "n:cc"};
            for (int many = 0; many <= 8; many++) {
                DrownedBells x = book(java.util.Arrays.copyOf(words, many));
                x.save();
                if (many > 0) {
                    x.strike(0);
                }
                due("restore()", x.restore(), many);
                due("account(0)", x.account(0), many);
            }
        });
        test("promise 40: what was saved stays saved", () -> {
            DrownedBells x = new DrownedBells();
            x.hang(0, 4);
            x.save();
            for (int round = 0; round < 3; round++) {
                x.hang(0, 5 + round);
                due("restore()", x.restore(), 0);
                due("depth", x.bellOf(0, 0), 4);
            }
            due("restore() twice", x.restore(), 0);
            due("depth", x.bellOf(0, 0), 4);
        });
        test("promise 40: nothing can be undone then", () -> {
            DrownedBells x = new DrownedBells();
            x.save();
            for (int change = 0; change < 9; change++) {
                x.hang(0, 1 + (change + 1) % 2);
            }
            x.restore();
            due("account(9)", x.account(9), 0);
            due("undo()", x.undo(), -3);
        });
        test("promise 40: after it 8 changes can be undone again", () -> {
            DrownedBells x = new DrownedBells();
            x.hang(1, 2);
            x.save();
            for (int change = 0; change < 3; change++) {
                x.hang(0, 2 + change);
            }
            x.restore();
            for (int change = 1; change <= 9; change++) {
                x.hang(0, 1 + change % 9);
                due("account(9)", x.account(9), Math.min(change, 8));
            }
            for (int left = 7; left >= 0; left--) {
                due("undo()", x.undo(), left);
                due("depth", x.bellOf(0, 0), 2 + left);
            }
            due("undo()", x.undo(), -3);
        });
        test("promise 40: undo does not undo what was saved", () -> {
            DrownedBells x = new DrownedBells();
            x.hang(0, 2);
            x.save();
            x.undo();
            due("restore()", x.restore(), 0);
            due("depth", x.bellOf(0, 0), 2);
        });
    }
}
