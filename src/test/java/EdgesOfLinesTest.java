import java.util.Map;

/** The edges that part 3 and promises 16 to 19 name, a test of its own for each sentence. */
public final class EdgesOfLinesTest {
    private static final String PART = "part 3", TYPE = "promise 16", SOURCE = "promise 17", LINE = "promise 18";

    public static void main(String[] args) {
        typedSignsWait();
        keyboardAtFirst();
        fileFromItsBeginning();
        upToTheFirstEnd();
        upToSoMany();
        endBehindSoMany();
        fileUpToAnEnd();
        fileUpToSoMany();
        fileUpToItsEnd();
        fileWithoutMoreSigns();
        fileWithoutAnySigns();
        fileThatGetsMoreSigns();
        fileThatGetsShorter();
        fileThatIsDropped();
        fileThatIsAPart();
        keyboardBehindAnEndedFile();
        echo();
        typed();
        sourceRefused();
        sourceMissing();
        sourceOfOtherKind();
        sourceAgain();
        lineBounds();
        lineState();
        lineStateBehindAFile();
        lineAsked();
        Check.end();
    }

    private static void echo() {
        echoOfSigns();
        echoOfNoSigns();
        echoAsEachIsOn();
        echoWhateverTables();
        echoToCommandsIfTyped();
        echoToCommandsIfOn();
        echoSignBySign();
        echoIntoTheLastByte();
        echoOfLostSigns();
    }

    private static void typed() {
        typedHowMany();
        typedOutside();
        typedRoom();
    }

    // ---- part 3

    private static void typedSignsWait() {
        Check.sentence(PART, "Typed signs wait.");
        Machine x = new Machine(5);
        Map<String, Object> before = x.sight();
        x.type(65);
        Check.due("a sign changed", x.changed(before), "told 6, typed signs");
        before = x.sight();
        x.type(13);
        Check.due("the end of a line changed", x.changed(before), "told 6, typed signs");
    }

    private static void keyboardAtFirst() {
        Check.sentence(PART, "THE SOURCE is the keyboard (at first)");
        Machine x = new Machine(5);
        Check.due("the source", x.told(7), Check.NONE);
        x.type(65);
        Check.due("a line", x.line(1), 1);
        Check.due("no file was ended", x.told(10), 0);
    }

    private static void fileFromItsBeginning() {
        Check.sentence(PART, "or a file, from its beginning on");
        Machine x = new Machine(5);
        Check.writeText(x, 0, "ab/cd");
        for (int i = 0; i < 3; i++) {
            x.answer(0);
            x.source(true);
            x.line(i + 1);
            Check.due("its first signs", Check.line(x), "ab".substring(0, Math.min(2, i + 1)));
        }
        x.source(false);
        x.answer(0);
        x.source(true);
        x.line(40);
        Check.due("behind the keyboard", Check.line(x), "ab");
    }

    private static void upToTheFirstEnd() {
        Check.sentence(PART, "up to the first 13, which goes, too, but is not of the LINE");
        Machine x = new Machine(5);
        Check.type(x, "ab//c/");
        Check.due("ab", x.line(40), 2);
        Check.due("its signs", Check.line(x), "ab");
        Check.due("wait", x.told(6), 3);
        Check.due("an empty one", x.line(40), 0);
        Check.due("wait", x.told(6), 2);
        Check.due("c", x.line(40), 1);
        Check.due("its sign", x.lineAt(0), (int) 'c');
        Check.due("wait", x.told(6), 0);
        Check.type(x, "ab/");
        Check.due("an end just behind the most but one", x.line(3), 2);
        Check.due("wait", x.told(6), 0);
    }

    private static void upToSoMany() {
        Check.sentence(PART, "which goes, too, but is not of the LINE, or up to so many");
        Machine x = new Machine(5);
        for (int i = 0; i < 60; i++) {
            x.type(32 + i);
        }
        Check.due("1", x.line(1), 1);
        Check.due("its sign", Check.line(x), " ");
        Check.due("40", x.line(40), 40);
        Check.due("its first sign", x.lineAt(0), 33);
        Check.due("its last sign", x.lineAt(39), 72);
        Check.due("wait", x.told(6), 19);
        Check.due("all the others", x.line(19), 19);
        Check.due("the last sign", x.lineAt(18), 91);
    }

    private static void endBehindSoMany() {
        Check.sentence(PART, "up to the first 13, which goes, too, but is not of the LINE, or up to so many");
        Machine x = new Machine(5);
        Check.type(x, "abc/de");
        Check.due("as many as are ahead of the end", x.line(3), 3);
        Check.due("the end waits still", x.told(6), 3);
        Check.due("an empty line", x.line(3), 0);
        Check.due("wait", x.told(6), 2);
        Check.due("de", x.line(2), 2);
    }

    private static Machine withText(int name, String text) {
        Machine x = new Machine(5);
        x.answer(name);
        x.choose(2, true, 0);
        Check.sign(x, text);
        x.choose(2, false, 0);
        x.answer(name);
        x.source(true);
        return x;
    }

    private static void fileUpToAnEnd() {
        Check.sentence(PART, "from a file likewise");
        Machine x = withText(2, "ab//c/");
        int[] lengths = {2, 0, 1};
        String[] lines = {"ab", "", "c"};
        for (int i = 0; i < lengths.length; i++) {
            Check.due("line " + i, x.line(40), lengths[i]);
            Check.due("its signs", Check.line(x), lines[i]);
        }
        Check.due("the file stays", Check.text(x, 2), "ab//c/");
        Check.due("not ended sooner", x.told(7), 2);
    }

    private static void fileUpToSoMany() {
        Check.sentence(PART, "or up to so many; from a file likewise");
        Machine x = withText(2, "abc/0123456789012345678901234567890123456789xy");
        Check.due("1", x.line(1), 1);
        Check.due("its sign", Check.line(x), "a");
        Check.due("2", x.line(2), 2);
        Check.due("its signs", Check.line(x), "bc");
        Check.due("the end that was left", x.line(2), 0);
        Check.due("40", x.line(40), 40);
        Check.due("its last sign", x.lineAt(39), (int) '9');
        Check.due("the others", x.line(40), 2);
        Check.due("its signs", Check.line(x), "xy");
    }

    private static void fileUpToItsEnd() {
        Check.sentence(PART, "from a file likewise, or up to its end.");
        Machine x = withText(2, "abc");
        Check.type(x, "typed/");
        Check.due("all three", x.line(40), 3);
        Check.due("its signs", Check.line(x), "abc");
        Check.due("typed signs wait still", x.told(6), 6);
        Check.due("the file is not ended yet", x.told(7), 2);
        Check.due("no row", Check.rows(x), "0:2 1:2 0:2");
        Machine y = withText(2, "abc");
        Check.due("as many as it has", y.line(3), 3);
        Check.due("the file is not ended yet", y.told(7), 2);
    }

    private static void fileWithoutMoreSigns() {
        Check.sentence(PART, "A file that has no more signs, or is no TEXT any more, is ENDED ahead of that");
        Machine x = withText(4, "ab/");
        x.line(40);
        Check.due("it is the source still", x.told(7), 4);
        Check.type(x, "k/");
        Check.due("a line", x.line(40), 1);
        Check.due("from the keyboard", Check.line(x), "k");
        Check.due("the source", x.told(7), Check.NONE);
        Check.due("rows", Check.rows(x), "0:4 1:4 0:4 3:4");
    }

    private static void fileWithoutAnySigns() {
        Check.sentence(PART, "A file that has no more signs");
        Machine x = new Machine(5);
        Check.writeEmptyText(x, 1);
        x.answer(1);
        Check.due("an empty TEXT may be the source", x.source(true), 1);
        Check.type(x, "k/");
        Check.due("a line", x.line(40), 1);
        Check.due("from the keyboard", Check.line(x), "k");
        Check.due("rows", Check.rows(x), "0:1 1:1 0:1 3:1");
    }

    private static void fileThatGetsMoreSigns() {
        Check.sentence(PART, "A file that has no more signs, or is no TEXT any more, is ENDED");
        Machine x = withText(1, "ab");
        x.line(40);
        x.transcript(true);
        Check.sign(x, "cd");
        x.transcript(false);
        Check.due("it has more again", x.line(40), 2);
        Check.due("its signs", Check.line(x), "cd");
        Check.due("the source", x.told(7), 1);
        Check.due("no row", Check.rows(x), "0:1 1:1 0:1");
    }

    private static void fileThatGetsShorter() {
        Check.sentence(PART, "A file that has no more signs, or is no TEXT any more, is ENDED ahead of that:");
        Machine x = withText(1, "abcdef");
        x.line(4);
        x.answer(1);
        x.choose(4, true, 0);
        Check.type(x, "k/");
        Check.due("it was emptied", x.line(40), 1);
        Check.due("from the keyboard", Check.line(x), "k");
        Check.due("rows", Check.rows(x), "0:1 1:1 0:1 0:1 1:1 3:1");
    }

    private static void fileThatIsDropped() {
        Check.sentence(PART, "or is no TEXT any more");
        Machine x = withText(1, "ab/cd");
        x.line(40);
        x.drop(1);
        Check.due("the source still", x.told(7), 1);
        Check.type(x, "k/");
        Check.due("a line", x.line(40), 1);
        Check.due("from the keyboard", Check.line(x), "k");
        Check.due("rows", Check.rows(x), "0:1 1:1 0:1 3:1");
    }

    private static void fileThatIsAPart() {
        Check.sentence(PART, "or is no TEXT any more, is ENDED ahead of that");
        Machine x = withText(1, "ab/cd");
        x.line(40);
        Check.writePart(x, 1, 0, 400);
        Check.due("the source still", x.told(7), 1);
        Check.type(x, "k/");
        Check.due("a line", x.line(40), 1);
        Check.due("from the keyboard", Check.line(x), "k");
        Check.due("rows", Check.rows(x), "0:1 1:1 0:1 0:1 3:1");
    }

    private static void keyboardBehindAnEndedFile() {
        Check.sentence(PART, "THE SOURCE is the keyboard then, from which the LINE is read.");
        Machine x = withText(1, "ab");
        x.answer(3);
        x.choose(4, true, 0);
        x.line(40);
        Check.type(x, "k/l/");
        x.line(40);
        Check.due("its line is a typed one", Check.text(x, 3), "k/");
        x.line(40);
        Check.due("the next one, too", Check.text(x, 3), "k/l/");
        Check.due("ended once", Check.rows(x), "0:1 1:1 0:1 0:3 1:3 3:1");
    }

    private static void echoOfSigns() {
        Check.sentence(PART, "when the LINE is read each of its signs, and then 13, comes to SCREEN and to TRANSCRIPT");
        Machine x = new Machine(5);
        x.answer(0);
        x.choose(2, true, 0);
        Check.type(x, "abc/de");
        x.line(40);
        Check.due("screen", Check.screen(x), "abc/");
        Check.due("transcript", Check.text(x, 0), "abc/");
        x.line(2);
        Check.due("13 also where none was typed", Check.screen(x), "abc/de/");
        Check.due("in the transcript, too", Check.text(x, 0), "abc/de/");
        Check.due("counted", x.told(0) * 10 + x.told(1), 77);
    }

    private static void echoOfNoSigns() {
        Check.sentence(PART, "each of its signs, and then 13");
        Machine x = new Machine(5);
        x.answer(0);
        x.answer(1);
        x.choose(2, true, 0);
        x.choose(4, true, 0);
        x.type(13);
        Check.due("an empty line", x.line(40), 0);
        Check.due("screen", Check.screen(x), "/");
        Check.due("transcript", Check.text(x, 0), "/");
        Check.due("commands", Check.text(x, 1), "/");
    }

    private static void echoAsEachIsOn() {
        Check.sentence(PART, "comes to SCREEN and to TRANSCRIPT, as each is on (whatever");
        Machine x = new Machine(5);
        x.answer(0);
        x.choose(2, true, 0);
        Check.type(x, "a/b/c/d/");
        x.line(9);
        x.choose(1, false, 0);
        x.line(9);
        x.choose(2, false, 0);
        x.line(9);
        x.choose(1, true, 0);
        x.line(9);
        Check.due("screen", Check.screen(x), "a/d/");
        Check.due("transcript", Check.text(x, 0), "a/b/");
        Check.due("lost", x.told(4), 0);
        Machine y = new Machine(5);
        y.transcript(true);
        y.answer(-9);
        y.answer(2);
        Check.type(y, "ab/");
        y.line(9);
        Check.due("a transcript that gets its file at the second sign", Check.text(y, 2), "b/");
        Check.due("rows", Check.rows(y), "0:-9 0:2 1:2");
    }

    private static void echoWhateverTables() {
        Check.sentence(PART, "(whatever TABLES are open)");
        Machine x = new Machine(5);
        x.answer(0);
        x.answer(1);
        x.choose(2, true, 0);
        x.choose(4, true, 0);
        for (int i = 0; i < 16; i++) {
            x.choose(3, true, 100 + 10 * i);
        }
        Check.type(x, "ab/");
        x.line(9);
        Check.due("screen", Check.screen(x), "ab/");
        Check.due("transcript", Check.text(x, 0), "ab/");
        Check.due("commands", Check.text(x, 1), "ab/");
        Check.due("the innermost table's count", x.table(15, 1), 0);
        Check.due("signs into tables", x.told(2), 0);
        Machine y = new Machine(5);
        y.choose(3, true, 1998);
        Check.type(y, "ab/");
        Check.due("a table without memory", y.line(9), 2);
        Check.due("screen", Check.screen(y), "ab/");
    }

    private static void echoToCommandsIfTyped() {
        Check.sentence(PART, "and, if it was typed, to COMMANDS");
        Machine x = withText(0, "file/");
        x.answer(1);
        x.choose(4, true, 0);
        x.line(40);
        Check.due("a line of a file", x.told(3), 0);
        Check.due("commands' file", x.fileOf(1, 1), 0);
        Check.due("is not lost", x.told(4), 0);
        Check.type(x, "k/");
        x.line(40);
        Check.due("a typed line", Check.text(x, 1), "k/");
        Check.due("came", x.told(3), 2);
    }

    private static void echoToCommandsIfOn() {
        Check.sentence(PART, "to COMMANDS, if that is on");
        Machine x = new Machine(5);
        Check.type(x, "a/b/c/");
        x.line(9);
        x.answer(1);
        x.choose(4, true, 0);
        x.line(9);
        x.choose(4, false, 0);
        x.line(9);
        Check.due("the second line alone", Check.text(x, 1), "b/");
        Check.due("came", x.told(3), 2);
        Check.due("lost", x.told(4), 0);
    }

    private static void echoSignBySign() {
        Check.sentence(PART, "(sign by sign, in this order)");
        Machine x = new Machine(5);
        x.answer(1);
        x.answer(1);
        x.choose(4, true, 0);
        x.choose(2, true, 0);
        Check.type(x, "abc/");
        x.line(9);
        Check.due("one file of both", Check.text(x, 1), "aabbcc//");
        Check.due("transcript", x.told(1), 4);
        Check.due("commands", x.told(3), 4);
    }

    private static void echoIntoTheLastByte() {
        Check.sentence(PART, "if that is on (sign by sign, in this order)");
        Machine x = new Machine(5);
        x.answer(1);
        x.answer(1);
        x.choose(4, true, 0);
        x.choose(2, true, 0);
        for (int i = 0; i < 397; i++) {
            x.sign(46);
        }
        Check.type(x, "ab/");
        x.line(9);
        Check.due("a for both, b for the transcript", x.byteOf(1, 397) + x.byteOf(1, 398) + x.byteOf(1, 399),
            97 + 97 + 98);
        Check.due("transcript", x.told(1), 399);
        Check.due("commands", x.told(3), 1);
        Check.due("lost: b to commands, 13 to both", x.told(4), 3);
        Check.due("screen", x.told(0), 400);
    }

    private static void echoOfLostSigns() {
        Check.sentence("part 2", "A sign comes behind the TEXT of a file; it is LOST, if that is full");
        Machine x = Scenes.fullTranscript(0);
        int shown = x.told(0);
        Check.type(x, "abc/");
        Check.due("a line", x.line(9), 3);
        Check.due("came to the screen", x.told(0), shown + 4);
        Check.due("came to the transcript", x.told(1), 400);
        Check.due("lost", x.told(4), 4);
        Check.due("its bytes", x.fileOf(0, 1), 400);
    }

    // ---- promise 16

    private static void typedHowMany() {
        Check.sentence(TYPE, "A sign is typed: how many wait.");
        Machine x = new Machine(5);
        Check.due("the first", x.type(32), 1);
        Check.due("the second", x.type(13), 2);
        Check.due("the third", x.type(126), 3);
        x.line(9);
        Check.due("behind a line", x.type(65), 2);
    }

    private static void typedOutside() {
        Check.sentence(TYPE, "OUTSIDE");
        Machine x = new Machine(5);
        int waiting = 0;
        for (int c = -2; c <= 31; c++) {
            waiting += c == 13 ? 1 : 0;
            Check.due("type " + c, x.type(c), c == 13 ? waiting : Check.OUTSIDE);
        }
        for (int c : new int[] {Check.LEAST, 127, 128, 13 + 256, 65 + 256, Check.MOST}) {
            Check.due("type " + c, x.type(c), Check.OUTSIDE);
        }
        Check.due("32", x.type(32), 2);
        Check.due("126", x.type(126), 3);
        Check.due("wait", x.told(6), 3);
    }

    private static void typedRoom() {
        Check.sentence(TYPE, "ROOM: 60 wait.");
        Machine x = new Machine(5);
        for (int i = 1; i <= 60; i++) {
            Check.due("sign " + i, x.type(i == 59 ? 13 : 33 + i), i);
        }
        Map<String, Object> before = x.sight();
        Check.due("a 61st", x.type(65), Check.ROOM);
        Check.due("a 61st that is 13", x.type(13), Check.ROOM);
        Check.due("they changed", x.changed(before), "");
        Check.due("a line", x.line(1), 1);
        Check.due("room for one", x.type(65), 60);
        Check.due("and no more", x.type(65), Check.ROOM);
        Check.due("the line was the first", x.lineAt(0), 34);
    }

    // ---- promise 17

    private static Machine amidFile() {
        Machine x = withText(1, "ab/cd");
        x.line(40);
        return x;
    }

    private static void sourceRefused() {
        Check.sentence(SOURCE, "THE SOURCE is a file, whose name is ASKED for (REFUSED");
        Machine x = amidFile();
        Map<String, Object> before = x.sight();
        Check.due("no answer", x.source(true), Check.REFUSED);
        Check.due("it changed", x.changed(before), "order 3 0, order 3 1, told 10");
        x.answer(-9);
        Check.due("NONE", x.source(true), Check.REFUSED);
        x.line(40);
        Check.due("it is read on", Check.line(x), "cd");
    }

    private static void sourceMissing() {
        Check.sentence(SOURCE, "(REFUSED; MISSING");
        Machine x = amidFile();
        x.answer(2);
        Map<String, Object> before = x.sight();
        Check.due("none there", x.source(true), Check.MISSING);
        Check.due("it changed", x.changed(before), "answers, order 3 0, order 3 1, told 10, told 5");
    }

    private static void sourceOfOtherKind() {
        Check.sentence(SOURCE, "KIND: it is no TEXT)");
        Machine x = amidFile();
        Check.writePart(x, 2, 0, 9);
        x.answer(2);
        Map<String, Object> before = x.sight();
        Check.due("a PART", x.source(true), Check.KIND);
        Check.due("it changed", x.changed(before), "answers, order 4 0, order 4 1, told 10, told 5");
    }

    private static void sourceAgain() {
        Check.sentence(SOURCE, "from its beginning on, or the keyboard: 1");
        Machine x = amidFile();
        x.answer(1);
        Check.due("the same file again", x.source(true), 1);
        x.line(40);
        Check.due("from its beginning", Check.line(x), "ab");
        Check.due("the keyboard", x.source(false), 1);
        Check.due("no file", x.told(7), Check.NONE);
        Check.due("the keyboard again", x.source(false), 1);
        Check.due("no file was ended", Check.rows(x), "0:1 1:1 0:1 0:1");
    }

    // ---- promise 18

    private static void lineBounds() {
        Check.sentence(LINE, "A LINE of at most so many signs (1 .. 40): how many it has. OUTSIDE.");
        Machine x = withText(1, "ab/cd");
        Check.type(x, "k/");
        Map<String, Object> before = x.sight();
        for (int most : new int[] {Check.LEAST, -40, -1, 0, 41, 42, 60, Check.MOST}) {
            Check.due("line " + most, x.line(most), Check.OUTSIDE);
        }
        Check.due("they changed", x.changed(before), "");
        Check.due("1", x.line(1), 1);
        Check.due("40", x.line(40), 1);
        Machine y = new Machine(5);
        Check.writeEmptyText(y, 1);
        y.answer(1);
        y.source(true);
        Check.due("41 of a file without signs", y.line(41), Check.OUTSIDE);
        Check.due("it is not ended by that", y.told(7), 1);
    }

    private static void lineState() {
        Check.sentence(LINE, "from the keyboard, if no 13 waits, and fewer signs than so many.");
        Machine x = new Machine(5);
        Check.due("none waits, 1 is wanted", x.line(1), Check.STATE);
        Check.due("none waits, 40 are wanted", x.line(40), Check.STATE);
        for (int i = 0; i < 39; i++) {
            x.type(65);
        }
        Map<String, Object> before = x.sight();
        Check.due("39 wait, 40 are wanted", x.line(40), Check.STATE);
        Check.due("it changed", x.changed(before), "");
        Machine y = x.again();
        Check.due("39 wait, 39 are wanted", y.line(39), 39);
        y = x.again();
        y.type(66);
        Check.due("40 wait, 40 are wanted", y.line(40), 40);
        y = x.again();
        y.type(13);
        Check.due("39 and an end wait, 40 are wanted", y.line(40), 39);
        y = new Machine(5);
        y.type(13);
        Check.due("an end alone waits, 40 are wanted", y.line(40), 0);
        y = new Machine(5);
        Check.type(y, "a/bc");
        y.line(40);
        Check.due("the end is gone, 3 are wanted", y.line(3), Check.STATE);
        Check.due("the latest line stays", Check.line(y), "a");
    }

    private static void lineStateBehindAFile() {
        Check.sentence(LINE, "STATE (behind a file that was ENDED; it is ENDED, then)");
        Machine x = withText(1, "ab");
        x.line(40);
        x.type(107);
        Map<String, Object> before = x.sight();
        Check.due("k alone waits, 2 are wanted", x.line(2), Check.STATE);
        Check.due("it changed", x.changed(before), "order 3 0, order 3 1, told 10, told 7");
        Check.due("rows", Check.rows(x), "0:1 1:1 0:1 3:1");
        Check.due("the latest line stays", Check.line(x), "ab");
        before = x.sight();
        Check.due("again", x.line(2), Check.STATE);
        Check.due("it changed", x.changed(before), "");
    }

    // ---- promise 19

    private static void lineAsked() {
        Check.sentence("promise 19", "Sign i of the latest LINE; NONE: none such.");
        Machine x = new Machine(5);
        Check.due("no line yet", x.lineAt(0), Check.NONE);
        for (int i = 0; i < 40; i++) {
            x.type(40 + i);
        }
        x.line(40);
        for (int i = 0; i < 40; i++) {
            Check.due("sign " + i, x.lineAt(i), 40 + i);
        }
        for (int i : new int[] {Check.LEAST, -1, 40, 41, Check.MOST}) {
            Check.due("sign " + i, x.lineAt(i), Check.NONE);
        }
        Check.type(x, "ab/");
        x.line(40);
        Check.due("sign 1 of a shorter one", x.lineAt(1), 98);
        Check.due("sign 2 of a shorter one", x.lineAt(2), Check.NONE);
        x.type(13);
        x.line(40);
        Check.due("sign 0 of an empty one", x.lineAt(0), Check.NONE);
    }
}
