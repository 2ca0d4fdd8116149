import java.util.Map;

/** The edges that part 2 and promises 1 to 7 name, a test of its own for each sentence. */
public final class EdgesOfStreamsTest {
    private static final String PART = "part 2", CHOOSE = "promise 2", SIGN = "promise 3";

    public static void main(String[] args) {
        versions();
        screenOnAtFirst();
        transcriptWhileTheBit();
        tablesAndCommandsOffAtFirst();
        streamsOfVersions();
        signsAtTheirBounds();
        innermostTableAlone();
        signIntoTable();
        signBehindTheMemory();
        screenAndTranscript();
        signs();
        chosen();
        tablesChosen();
        howManyTables();
        tableAsked();
        tableUnknown();
        tableOutside();
        shownAgo();
        shownNone();
        transcriptCalled();
        Check.end();
    }

    private static void signs() {
        noFileAtFirst();
        transcriptIntoPart();
        transcriptFileIsMade();
        transcriptKeepsItsFile();
        chosenOnWithoutFile();
        chosenOnWithFile();
        signWithoutFile();
        signThatGetsNoFile();
        lostToFullFile();
        lostToDroppedFile();
        lostToPart();
        lostSignsDidNotCome();
        signsOutside();
        howManyStreams();
        signMemory();
    }

    private static void chosen() {
        unknownStream();
        screenIsSo();
        transcriptOn();
        transcriptOff();
        commandsOn();
        commandsOnRefused();
        commandsOff();
    }

    private static void tablesChosen() {
        countAtFirst();
        sixteenTables();
        oneTableInVersions3And4();
        countAsItCloses();
        deepThenMemory();
        oneOfItsTwo();
        closeNone();
        closeInnermost();
    }

    // ---- promise 1

    private static void versions() {
        Check.sentence("promise 1", "A machine of a version, 1 to 8 (another one as the nearest).");
        for (int version = 1; version <= 8; version++) {
            Check.due("version " + version, new Machine(version).told(11), version);
        }
        for (int version : new int[] {0, -1, -8, Check.LEAST, Check.LEAST + 1}) {
            Check.due("version " + version, new Machine(version).told(11), 1);
            Check.due("tables of version " + version, new Machine(version).choose(3, true, 0), Check.UNKNOWN);
        }
        for (int version : new int[] {9, 10, 256, Check.MOST - 1, Check.MOST}) {
            Machine x = new Machine(version);
            Check.due("version " + version, x.told(11), 8);
            x.choose(3, true, 0);
            Check.due("a second table of version " + version, x.choose(3, true, 0), 1);
        }
    }

    // ---- part 2

    private static void screenOnAtFirst() {
        Check.sentence(PART, "1 SCREEN (on at first)");
        for (int version = 1; version <= 8; version++) {
            Machine x = new Machine(version);
            Check.due("the first sign", x.sign(65), 1);
            Check.due("came to the screen", x.told(0), 1);
        }
    }

    private static void transcriptWhileTheBit() {
        Check.sentence(PART, "2 TRANSCRIPT (on just while THE BIT is 1)");
        Machine x = new Machine(5);
        x.answer(0);
        x.choose(2, true, 0);
        int[] bytes = {0, 1, 2, 3, 128, 129, 254, 255, 0, 255};
        int came = 0;
        for (int v : bytes) {
            x.poke(17, v);
            Check.due("a sign while byte 17 is " + v, x.sign(65), 1 + v % 2);
            came += v % 2;
            Check.due("came while it was " + v, x.told(1), came);
        }
        x.poke(17, 0);
        x.poke(16, 255);
        x.poke(18, 255);
        Check.due("its neighbours are not it", x.sign(65), 1);
        Check.writePart(x, 1, 16, 1);
        x.answer(1);
        x.load(17, 1);
        Check.due("loaded over it", x.sign(65), 2);
    }

    private static void tablesAndCommandsOffAtFirst() {
        Check.sentence(PART, "3 TABLES, 4 COMMANDS (off at first)");
        Machine x = new Machine(5);
        Check.due("tables", x.depth(), 0);
        Check.due("commands", x.told(9), Check.NONE);
        Check.type(x, "a/");
        x.line(40);
        Check.due("a line came to commands", x.told(3), 0);
        Check.due("a line was lost", x.told(4), 0);
    }

    private static void streamsOfVersions() {
        Check.sentence(PART, "3 and 4 are there from version 3 on.");
        for (int version = 1; version <= 8; version++) {
            int due = version < 3 ? Check.UNKNOWN : 1;
            Machine x = new Machine(version);
            Check.due("tables on in version " + version, x.choose(3, true, 40), due);
            Check.due("tables off in version " + version, x.choose(3, false, 40), due);
            x.answer(0);
            Check.due("commands on in version " + version, x.choose(4, true, 0), due);
            Check.due("commands off in version " + version, x.choose(4, false, 0), due);
            Check.due("answers of version " + version, x.told(5), version < 3 ? 1 : 0);
        }
    }

    private static void signsAtTheirBounds() {
        Check.sentence(PART, "A SIGN is 13 (the end of a line) or 32 .. 126.");
        Machine x = new Machine(5);
        for (int c = -2; c <= 130; c++) {
            boolean sign = c == 13 || (c >= 32 && c <= 126);
            Check.due("sign " + c, x.sign(c), sign ? 1 : Check.OUTSIDE);
        }
        for (int c : new int[] {Check.LEAST, 13 - 256, 13 + 256, 65 + 256, 65 + 65536, Check.MOST}) {
            Check.due("sign " + c, x.sign(c), Check.OUTSIDE);
        }
        Check.due("signs that came", x.told(0), 96);
    }

    private static void innermostTableAlone() {
        Check.sentence(PART, "While TABLES are open it comes into the innermost one alone");
        Machine x = new Machine(5);
        x.answer(0);
        x.choose(2, true, 0);
        x.choose(3, true, 100);
        x.choose(3, true, 200);
        Map<String, Object> before = x.sight();
        Check.due("a sign", x.sign(65), 1);
        Check.due("it changed", x.changed(before), "peek 202, table 1 1, told 2");
        x.choose(3, false, 0);
        before = x.sight();
        Check.due("a sign", x.sign(66), 1);
        Check.due("it changed", x.changed(before), "peek 102, table 0 1, told 2");
        x.choose(3, false, 0);
        Check.due("a sign when none is open", x.sign(67), 2);
    }

    private static void signIntoTable() {
        Check.sentence(PART, "byte ADDRESS + 2 + COUNT becomes it, and COUNT is 1 more");
        Machine x = new Machine(5);
        x.choose(3, true, 0);
        Check.sign(x, "az/ ~");
        Check.due("from byte 2 on", Check.bytes(x, 0, 8), "0 0 97 122 13 32 126 0");
        Check.due("its count", x.table(0, 1), 5);
        x.choose(3, true, 3);
        x.sign(66);
        Check.due("over the outer one's signs", Check.bytes(x, 2, 5), "97 122 13 66 126");
    }

    private static void signBehindTheMemory() {
        Check.sentence(PART, "(MEMORY: neither)");
        Machine x = new Machine(5);
        x.choose(3, true, 1996);
        Check.due("byte 1998", x.sign(65), 1);
        Check.due("byte 1999", x.sign(66), 1);
        Map<String, Object> before = x.sight();
        Check.due("byte 2000", x.sign(67), Check.MEMORY);
        Check.due("again", x.sign(67), Check.MEMORY);
        Check.due("they changed", x.changed(before), "");
        x.choose(3, false, 0);
        Check.due("its count and signs", Check.bytes(x, 1996, 4), "0 2 65 66");
    }

    private static void screenAndTranscript() {
        Check.sentence(PART, "Otherwise it comes to SCREEN and to TRANSCRIPT, as each is on.");
        Machine x = new Machine(5);
        x.answer(0);
        x.choose(2, true, 0);
        Check.due("both", x.sign(65), 2);
        x.choose(1, false, 0);
        Check.due("transcript", x.sign(66), 1);
        x.choose(2, false, 0);
        Check.due("neither", x.sign(67), 0);
        x.choose(1, true, 0);
        Check.due("screen", x.sign(68), 1);
        Check.due("on the screen", Check.screen(x), "AD");
        Check.due("in the transcript", Check.text(x, 0), "AB");
        Check.due("lost", x.told(4), 0);
    }

    private static void noFileAtFirst() {
        Check.sentence(PART, "TRANSCRIPT has no file at first.");
        Machine x = new Machine(5);
        Check.due("its file", x.told(8), Check.NONE);
        Check.writeText(x, 0, "a");
        x.transcript(true);
        Check.due("file 0 is not its own", x.sign(65), 1);
        Check.due("text of file 0", Check.text(x, 0), "a/");
    }

    private static void transcriptIntoPart() {
        Check.sentence(PART, "KIND: that file is a PART");
        Machine x = new Machine(5);
        Check.writePart(x, 2, 0, 0);
        x.answer(2);
        Check.due("chosen on with an empty PART", x.choose(2, true, 0), Check.KIND);
        Check.due("THE BIT", x.peek(17), 0);
        Check.due("its file", x.told(8), Check.NONE);
        Check.due("the PART", x.fileOf(2, 0), 1);
        Check.due("rows", Check.rows(x), "0:2 0:2");
    }

    private static void transcriptFileIsMade() {
        Check.sentence(PART, "one that is not there is made, a TEXT without signs");
        Machine x = new Machine(5);
        Check.writeText(x, 4, "old");
        x.drop(4);
        x.answer(4);
        Check.due("chosen on", x.choose(2, true, 0), 1);
        Check.due("a TEXT", x.fileOf(4, 0), 0);
        Check.due("without signs", x.fileOf(4, 1), 0);
        Check.due("no old sign", x.byteOf(4, 0), Check.UNKNOWN);
        Machine y = new Machine(5);
        Check.writeText(y, 4, "old");
        y.answer(4);
        y.choose(2, true, 0);
        Check.due("one that is there keeps its signs", Check.text(y, 4), "old/");
        Check.due("and is not made", Check.rows(y), "0:4 1:4 0:4");
    }

    private static void transcriptKeepsItsFile() {
        Check.sentence(PART, "it is TRANSCRIPT's from then on");
        Machine x = new Machine(5);
        x.answer(1);
        x.answer(2);
        x.choose(2, true, 0);
        x.choose(2, false, 0);
        x.choose(2, true, 0);
        x.transcript(false);
        x.transcript(true);
        x.sign(65);
        Check.due("still its own", x.told(8), 1);
        Check.due("the other answer waits", x.told(5), 1);
        x.drop(1);
        x.choose(2, true, 0);
        x.sign(66);
        Check.due("also when it was dropped", x.told(8), 1);
        Check.due("still waits", x.told(5), 1);
        Check.due("rows", Check.rows(x), "0:1 1:1");
    }

    private static void chosenOnWithoutFile() {
        Check.sentence(PART, "It gets one as it is chosen on, if it has none");
        Machine x = new Machine(1);
        x.transcript(true);
        x.answer(5);
        Check.due("chosen on while THE BIT is 1", x.choose(2, true, 0), 1);
        Check.due("its file", x.told(8), 5);
        Check.due("rows", Check.rows(x), "0:5 1:5");
        Machine y = new Machine(1);
        y.answer(5);
        Check.due("chosen off", y.choose(2, false, 0), 1);
        Check.due("it has none", y.told(8), Check.NONE);
        Check.due("nothing was asked for", y.told(10), 0);
    }

    private static void chosenOnWithFile() {
        Check.sentence(CHOOSE, "it gets a file, if it has none");
        Machine x = new Machine(1);
        x.answer(0);
        x.choose(2, true, 0);
        Check.due("again without an answer", x.choose(2, true, 0), 1);
        x.choose(2, false, 0);
        x.answer(-9);
        Check.due("again with NONE waiting", x.choose(2, true, 0), 1);
        Check.due("NONE still waits", x.told(5), 1);
        Check.due("THE BIT", x.peek(17), 1);
        Check.due("rows", Check.rows(x), "0:0 1:0");
    }

    private static void signWithoutFile() {
        Check.sentence(PART, "and as a sign comes to it, if it has none then (it was put on by THE BIT alone)");
        Machine x = new Machine(5);
        x.poke(17, 1);
        x.answer(3);
        x.answer(4);
        Check.due("the first sign", x.sign(65), 2);
        Check.due("its file", x.told(8), 3);
        Check.due("the second sign", x.sign(66), 2);
        Check.due("asked once", Check.rows(x), "0:3 1:3");
        Check.due("both came", Check.text(x, 3), "AB");
        Machine y = new Machine(5);
        y.poke(17, 1);
        y.answer(3);
        y.choose(3, true, 500);
        Check.due("a sign into a table", y.sign(65), 1);
        Check.due("comes not to it", y.told(10), 0);
    }

    private static void signThatGetsNoFile() {
        Check.sentence(PART, "where it gets none so, the sign is LOST");
        Machine x = new Machine(5);
        Check.writePart(x, 1, 0, 5);
        x.transcript(true);
        Check.due("no answer", x.sign(65), 1);
        Check.due("lost", x.told(4), 1);
        x.answer(-9);
        Check.due("NONE", x.sign(66), 1);
        Check.due("lost", x.told(4), 2);
        x.answer(1);
        Check.due("a PART", x.sign(67), 1);
        Check.due("lost", x.told(4), 3);
        Check.due("its file", x.told(8), Check.NONE);
        Check.due("THE BIT stays", x.peek(17), 1);
        x.choose(1, false, 0);
        Check.due("to no stream at all", x.sign(68), 0);
        Check.due("asked each time", Check.rows(x), "0:1 0:-9 0:-9 0:1 0:-9");
        Check.due("came", x.told(1), 0);
    }

    private static void lostToFullFile() {
        Check.sentence(PART, "it is LOST, if that is full");
        Machine x = Scenes.fullTranscript(0);
        Check.due("its bytes", x.fileOf(0, 1), 400);
        Check.due("all came", x.told(1), 400);
        Check.due("none lost", x.told(4), 0);
        int shown = x.told(0);
        Map<String, Object> before = x.sight();
        Check.due("one more", x.sign(65), 1);
        Check.due("lost", x.told(4), 1);
        Check.due("came to the screen", x.told(0), shown + 1);
        Check.due("the file changed", x.changed(before).contains("byte"), false);
        Machine y = Scenes.fullTranscript(0);
        y.drop(0);
        y.answer(0);
        y.choose(4, true, 0);
        Check.due("made anew it has room", y.sign(65), 2);
    }

    private static void lostToDroppedFile() {
        Check.sentence(PART, "it is LOST, if that is full, not there");
        Machine x = new Machine(5);
        x.answer(0);
        x.choose(2, true, 0);
        x.sign(65);
        x.drop(0);
        Check.due("a sign", x.sign(66), 1);
        Check.due("lost", x.told(4), 1);
        Check.due("the file is not made", x.fileOf(0, 0), Check.NONE);
        Check.due("nothing is asked for", Check.rows(x), "0:0 1:0");
        Machine y = new Machine(5);
        y.answer(1);
        y.choose(4, true, 0);
        y.drop(1);
        Check.type(y, "ab/");
        y.line(40);
        Check.due("commands lose three", y.told(4), 3);
        Check.due("none came to them", y.told(3), 0);
        Check.due("they keep their number", y.told(9), 1);
    }

    private static void lostToPart() {
        Check.sentence(PART, "it is LOST, if that is full, not there, or a PART.");
        Machine x = new Machine(5);
        x.answer(0);
        x.choose(2, true, 0);
        Check.writePart(x, 0, 0, 7);
        Check.due("a sign", x.sign(66), 1);
        Check.due("lost", x.told(4), 1);
        Check.due("the PART's bytes", x.fileOf(0, 1), 7);
        Machine y = new Machine(5);
        y.answer(1);
        y.choose(4, true, 0);
        Check.writePart(y, 1, 0, 7);
        Check.type(y, "ab/");
        y.line(40);
        Check.due("commands lose three", y.told(4), 3);
        Check.due("none came to them", y.told(3), 0);
        Check.due("the PART's bytes", y.fileOf(1, 1), 7);
    }

    private static void lostSignsDidNotCome() {
        Check.sentence(PART, "(A sign that is LOST did not come to that stream.)");
        Machine x = new Machine(5);
        x.answer(0);
        x.choose(2, true, 0);
        x.drop(0);
        x.choose(1, false, 0);
        Check.due("a sign to no stream", x.sign(65), 0);
        Check.due("not to the screen", x.told(0), 0);
        Check.due("not to the transcript", x.told(1), 0);
        Check.due("lost", x.told(4), 1);
    }

    private static void countAtFirst() {
        Check.sentence(PART, "each one has an ADDRESS and a COUNT (0 at first)");
        Machine x = new Machine(5);
        x.poke(100, 1);
        x.poke(101, 2);
        x.choose(3, true, 100);
        Check.due("its count, whatever the memory holds", x.table(0, 1), 0);
        x.sign(65);
        x.choose(3, false, 0);
        x.choose(3, true, 100);
        Check.due("its count when it is opened again", x.table(0, 1), 0);
        x.sign(66);
        Check.due("from its beginning", x.peek(102), 66);
    }

    private static void sixteenTables() {
        Check.sentence(PART, "16 at most lie within one another");
        for (int version = 5; version <= 8; version++) {
            Machine x = new Machine(version);
            for (int i = 1; i <= 16; i++) {
                Check.due("table " + i, x.choose(3, true, 10 * i), 1);
            }
            Check.due("table 17", x.choose(3, true, 170), Check.DEEP);
            Check.due("tables", x.depth(), 16);
            Check.due("the innermost", x.table(15, 0), 160);
            x.choose(3, false, 0);
            Check.due("one may be opened again", x.choose(3, true, 180), 1);
            Check.due("and no more", x.choose(3, true, 190), Check.DEEP);
        }
    }

    private static void oneTableInVersions3And4() {
        Check.sentence(PART, "in versions 3 and 4 one alone");
        for (int version = 3; version <= 4; version++) {
            Machine x = new Machine(version);
            Check.due("one", x.choose(3, true, 10), 1);
            Check.due("a second one", x.choose(3, true, 20), Check.DEEP);
            Check.due("tables", x.depth(), 1);
            Check.due("its address", x.table(0, 0), 10);
            x.choose(3, false, 0);
            Check.due("another one then", x.choose(3, true, 20), 1);
        }
        Machine y = new Machine(5);
        y.choose(3, true, 10);
        Check.due("a second one in version 5", y.choose(3, true, 20), 1);
    }

    private static void countAsItCloses() {
        Check.sentence(PART, "TWO at the ADDRESS become COUNT as it closes, no sooner.");
        int[] counts = {0, 1, 255, 256, 257};
        for (int count : counts) {
            Machine x = new Machine(5);
            x.poke(100, 77);
            x.poke(101, 78);
            x.choose(3, true, 100);
            Check.due("as it is opened", Check.bytes(x, 100, 2), "77 78");
            for (int i = 0; i < count; i++) {
                x.sign(65);
            }
            Check.due("after " + count + " signs", Check.bytes(x, 100, 2), "77 78");
            x.choose(3, false, 0);
            Check.due("as it closes", Check.bytes(x, 100, 2), count / 256 + " " + count % 256);
            Check.due("its row", Check.rows(x), "2:" + count);
        }
    }

    // ---- promise 2

    private static void unknownStream() {
        Check.sentence(CHOOSE, "UNKNOWN: the stream.");
        Machine x = Scenes.busy();
        Map<String, Object> before = x.sight();
        for (int stream : new int[] {Check.LEAST, -4, -1, 0, 5, 6, Check.MOST}) {
            Check.due("on " + stream, x.choose(stream, true, 0), Check.UNKNOWN);
            Check.due("off " + stream, x.choose(stream, false, 0), Check.UNKNOWN);
        }
        Check.due("they changed", x.changed(before), "");
    }

    private static void screenIsSo() {
        Check.sentence(CHOOSE, "A stream is on, or off: 1. 1: it is so.");
        Machine x = new Machine(5);
        Check.due("on when it is", x.choose(1, true, Check.LEAST), 1);
        Check.due("a sign", x.sign(65), 1);
        Check.due("off", x.choose(1, false, Check.MOST), 1);
        Check.due("off when it is", x.choose(1, false, 0), 1);
        Check.due("a sign", x.sign(65), 0);
        Check.due("on", x.choose(1, true, 0), 1);
        Check.due("a sign", x.sign(65), 1);
    }

    private static void transcriptOn() {
        Check.sentence(CHOOSE, "(REFUSED, KIND); THE BIT is 1");
        Machine x = new Machine(5);
        x.poke(17, 254);
        Map<String, Object> before = x.sight();
        Check.due("no answer", x.choose(2, true, 0), Check.REFUSED);
        Check.due("it changed", x.changed(before), "order 0 0, order 0 1, told 10");
        x.answer(-9);
        before = x.sight();
        Check.due("NONE", x.choose(2, true, 0), Check.REFUSED);
        Check.due("it changed", x.changed(before), "answers, order 1 0, order 1 1, told 10, told 5");
        x.answer(0);
        Check.due("a file", x.choose(2, true, 0), 1);
        Check.due("THE BIT alone", x.peek(17), 255);
        Check.due("on when it is", x.choose(2, true, 0), 1);
        Check.due("THE BIT stays", x.peek(17), 255);
    }

    private static void transcriptOff() {
        Check.sentence(CHOOSE, "off: THE BIT is 0.");
        Machine x = new Machine(5);
        x.poke(17, 255);
        Check.due("off", x.choose(2, false, 0), 1);
        Check.due("THE BIT alone", x.peek(17), 254);
        Check.due("off when it is", x.choose(2, false, 0), 1);
        Check.due("THE BIT stays", x.peek(17), 254);
        Check.due("nothing is asked for", x.told(10), 0);
    }

    private static void deepThenMemory() {
        Check.sentence(CHOOSE, "(DEEP; then MEMORY: one of its TWO is not there)");
        Machine x = new Machine(3);
        x.choose(3, true, 0);
        Check.due("both", x.choose(3, true, -1), Check.DEEP);
        Check.due("both at 2000", x.choose(3, true, 2000), Check.DEEP);
        x.choose(3, false, 0);
        Check.due("memory alone", x.choose(3, true, 2000), Check.MEMORY);
    }

    private static void oneOfItsTwo() {
        Check.sentence(CHOOSE, "MEMORY: one of its TWO is not there");
        Machine x = new Machine(5);
        for (int at : new int[] {Check.LEAST, -2, -1, 1999, 2000, 2001, Check.MOST - 1, Check.MOST}) {
            Check.due("a table at " + at, x.choose(3, true, at), Check.MEMORY);
        }
        Check.due("none was opened", x.depth(), 0);
        Check.due("at the last TWO", x.choose(3, true, 1998), 1);
        Check.due("at the first TWO", x.choose(3, true, 0), 1);
        Check.due("addresses", x.table(0, 0) * 10 + x.table(1, 0), 19980);
    }

    private static void closeNone() {
        Check.sentence(CHOOSE, "off: the innermost one closes (nothing, if there is none).");
        Machine x = new Machine(5);
        Map<String, Object> before = x.sight();
        Check.due("none was ever open", x.choose(3, false, 100), 1);
        Check.due("it changed", x.changed(before), "");
        x.choose(3, true, 100);
        x.choose(3, false, 0);
        before = x.sight();
        Check.due("none is open any more", x.choose(3, false, 100), 1);
        Check.due("it changed", x.changed(before), "");
    }

    private static void closeInnermost() {
        Check.sentence(CHOOSE, "off: the innermost one closes");
        Machine x = new Machine(5);
        x.choose(3, true, 100);
        x.sign(65);
        x.choose(3, true, 200);
        x.sign(66);
        x.sign(66);
        Check.due("off, whatever place is told", x.choose(3, false, 100), 1);
        Check.due("the inner one's count", Check.bytes(x, 200, 2), "0 2");
        Check.due("the outer one's is not written", Check.bytes(x, 100, 2), "0 0");
        Check.due("the outer one is open", x.depth() * 1000 + x.table(0, 0) + x.table(0, 1), 1101);
        Check.due("the inner one is not", x.table(1, 0), Check.UNKNOWN);
    }

    private static void commandsOn() {
        Check.sentence(CHOOSE, "that file is a TEXT without signs from now on, whatever it was");
        Machine x = new Machine(5);
        Check.writePart(x, 1, 0, 9);
        Check.writeText(x, 2, "text");
        for (int name = 0; name <= 2; name++) {
            x.answer(name);
            Check.due("on with file " + name, x.choose(4, true, 0), 1);
            Check.due("its kind", x.fileOf(name, 0), 0);
            Check.due("its signs", x.fileOf(name, 1), 0);
            Check.due("it is theirs", x.told(9), name);
        }
        x.answer(2);
        Check.type(x, "a/");
        x.line(9);
        Check.due("it has signs", x.fileOf(2, 1), 2);
        Check.due("on with the same file", x.choose(4, true, 0), 1);
        Check.due("it has none", x.fileOf(2, 1), 0);
    }

    private static void commandsOnRefused() {
        Check.sentence(CHOOSE, "4: on: a name is ASKED for (REFUSED)");
        Machine x = new Machine(5);
        Check.due("no answer", x.choose(4, true, 0), Check.REFUSED);
        Check.due("off still", x.told(9), Check.NONE);
        x.answer(3);
        x.choose(4, true, 0);
        Check.type(x, "a/");
        x.line(9);
        Map<String, Object> before = x.sight();
        Check.due("on without an answer", x.choose(4, true, 0), Check.REFUSED);
        Check.due("it changed", x.changed(before), "order 3 0, order 3 1, told 10");
        x.answer(-9);
        before = x.sight();
        Check.due("on with NONE", x.choose(4, true, 0), Check.REFUSED);
        Check.due("it changed", x.changed(before), "answers, order 4 0, order 4 1, told 10, told 5");
    }

    private static void commandsOff() {
        Check.sentence(CHOOSE, "off: it is so. UNKNOWN: the stream.");
        Machine x = new Machine(5);
        Check.due("off when it is", x.choose(4, false, 0), 1);
        x.answer(3);
        x.choose(4, true, 0);
        Check.type(x, "a/b/");
        x.line(9);
        Check.due("off", x.choose(4, false, 0), 1);
        Check.due("its file", x.told(9), Check.NONE);
        x.line(9);
        Check.due("no sign comes any more", Check.text(x, 3), "a/");
        Check.due("none is lost", x.told(4), 0);
        Check.due("nothing is asked for", Check.rows(x), "0:3 1:3");
    }

    // ---- promise 3

    private static void howManyStreams() {
        Check.sentence(SIGN, "A sign: to how many streams it came (1: into a TABLE).");
        Machine x = new Machine(5);
        x.answer(0);
        x.answer(1);
        x.choose(2, true, 0);
        x.choose(4, true, 0);
        Check.due("commands are none of them", x.sign(65), 2);
        x.choose(3, true, 100);
        Check.due("into a table, while both are on", x.sign(65), 1);
        x.choose(1, false, 0);
        x.choose(2, false, 0);
        Check.due("into a table, while neither is on", x.sign(65), 1);
        x.choose(3, false, 0);
        Check.due("to none", x.sign(65), 0);
    }

    private static void signsOutside() {
        Check.sentence(SIGN, "OUTSIDE.");
        Machine x = Scenes.busy();
        Map<String, Object> before = x.sight();
        for (int c : new int[] {Check.LEAST, -1, 0, 12, 14, 31, 127, 255, Check.MOST}) {
            Check.due("sign " + c, x.sign(c), Check.OUTSIDE);
        }
        Check.due("they changed", x.changed(before), "");
        x.choose(3, false, 0);
        x.choose(3, true, 1998);
        Check.due("outside ahead of memory", x.sign(127), Check.OUTSIDE);
    }

    private static void signMemory() {
        Check.sentence(SIGN, "OUTSIDE. MEMORY.");
        Machine x = new Machine(5);
        x.answer(0);
        x.choose(2, true, 0);
        x.choose(3, true, 1998);
        Check.due("a sign behind the memory", x.sign(65), Check.MEMORY);
        Check.due("it came to no stream", x.told(0) + x.told(1) + x.told(2), 0);
        Check.due("it is not lost", x.told(4), 0);
        Check.due("the table is open still", x.depth(), 1);
    }

    // ---- promises 4 to 7

    private static void howManyTables() {
        Check.sentence("promise 4", "How many TABLES are open.");
        Machine x = new Machine(5);
        Check.due("none", x.depth(), 0);
        for (int i = 1; i <= 16; i++) {
            x.choose(3, true, i);
            Check.due("opened", x.depth(), i);
        }
        x.choose(3, true, 17);
        Check.due("one too many", x.depth(), 16);
        x.choose(3, false, 0);
        Check.due("one is closed", x.depth(), 15);
        Check.due("none in version 1", new Machine(1).depth(), 0);
    }

    private static void tableAsked() {
        Check.sentence("promise 5", "Of TABLE i (0 is the outermost one): what = 0 its ADDRESS, 1 its COUNT.");
        Machine x = Scenes.full();
        Check.due("the outermost", x.table(0, 0), 0);
        Check.due("the innermost", x.table(15, 0), 1500);
        x.sign(65);
        Check.due("its count", x.table(15, 1), 1);
        Check.due("the others' counts", x.table(14, 1) + x.table(0, 1), 0);
    }

    private static void tableUnknown() {
        Check.sentence("promise 5", "UNKNOWN; OUTSIDE.");
        Machine x = Scenes.full();
        for (int i : new int[] {Check.LEAST, -1, 16, 17, Check.MOST}) {
            Check.due("table " + i, x.table(i, 0), Check.UNKNOWN);
            Check.due("count of table " + i, x.table(i, 1), Check.UNKNOWN);
        }
        x.choose(3, false, 0);
        Check.due("one that is closed", x.table(15, 0), Check.UNKNOWN);
        Check.due("one when none is open", new Machine(5).table(0, 0), Check.UNKNOWN);
    }

    private static void tableOutside() {
        Check.sentence("promise 5", "OUTSIDE.");
        Machine x = Scenes.full();
        for (int what : new int[] {Check.LEAST, -1, 2, 3, Check.MOST}) {
            Check.due("what " + what, x.table(0, what), Check.OUTSIDE);
            Check.due("what " + what + " of the innermost", x.table(15, what), Check.OUTSIDE);
        }
    }

    private static void shownAgo() {
        Check.sentence("promise 6", "(0: the latest; 99 at most)");
        Machine x = new Machine(5);
        for (int i = 0; i < 310; i++) {
            x.sign(32 + i % 95);
        }
        for (int ago = 0; ago <= 99; ago++) {
            Check.due("shown " + ago, x.shown(ago), 32 + (309 - ago) % 95);
        }
        Check.due("shown 100", x.shown(100), Check.NONE);
        Check.due("shown 309", x.shown(309), Check.NONE);
        Check.due("shown -1", x.shown(-1), Check.NONE);
        Check.due("shown of the greatest number", x.shown(Check.MOST), Check.NONE);
        Check.due("shown of the least number", x.shown(Check.LEAST), Check.NONE);
    }

    private static void shownNone() {
        Check.sentence("promise 6", "NONE: none did.");
        Machine x = new Machine(5);
        Check.due("no sign", x.shown(0), Check.NONE);
        for (int i = 1; i <= 100; i++) {
            x.sign(65);
            Check.due("the first of " + i, x.shown(i - 1), 65);
            Check.due("ahead of the first of " + i, x.shown(i), Check.NONE);
        }
        Machine y = new Machine(5);
        y.choose(1, false, 0);
        y.sign(65);
        y.choose(3, true, 0);
        y.choose(1, true, 0);
        y.sign(65);
        Check.due("signs that came elsewhere", y.shown(0), Check.NONE);
    }

    private static void transcriptCalled() {
        Check.sentence("promise 7", "THE BIT becomes 1, or 0 (nothing is ASKED for): what it was.");
        Machine x = new Machine(5);
        x.answer(0);
        x.poke(17, 254);
        Check.due("0 to 0", x.transcript(false), 0);
        Check.due("0 to 1", x.transcript(true), 0);
        Check.due("byte 17", x.peek(17), 255);
        Check.due("1 to 1", x.transcript(true), 1);
        Check.due("byte 17", x.peek(17), 255);
        Check.due("1 to 0", x.transcript(false), 1);
        Check.due("byte 17", x.peek(17), 254);
        Check.due("the answer waits", x.told(5), 1);
        Check.due("no row", x.told(10), 0);
        Check.due("no file", x.told(8), Check.NONE);
    }
}
