/** Promises 2 to 7: choose, sign, depth, table, shown, transcript. */
public final class StreamsTest {
    public static void main(String[] args) {
        unknownStreams();
        screenOnAndOff();
        transcriptChosen();
        transcriptGetsOtherFiles();
        transcriptByTheBit();
        transcriptLosesSigns();
        tablesNest();
        tablesAtTheEdges();
        tablesOverTheBit();
        tablesOfOldVersions();
        commandsChosen();
        signsOutside();
        tableAsked();
        shownSigns();
        transcriptBit();
        Check.end();
    }

    private static void unknownStreams() {
        for (int version = 1; version <= 8; version++) {
            Machine x = new Machine(version);
            x.answer(1);
            for (int stream : new int[] {Check.LEAST, -3, -1, 0, 5, Check.MOST}) {
                Check.due("choose " + stream, x.choose(stream, true, 0), Check.UNKNOWN);
                Check.due("choose off " + stream, x.choose(stream, false, 0), Check.UNKNOWN);
            }
            boolean all = version >= 3;
            Check.due("v" + version + " tables", x.choose(3, true, 0), all ? 1 : Check.UNKNOWN);
            Check.due("v" + version + " tables off", x.choose(3, false, 0), all ? 1 : Check.UNKNOWN);
            Check.due("v" + version + " commands off", x.choose(4, false, 0), all ? 1 : Check.UNKNOWN);
            Check.due("v" + version + " commands", x.choose(4, true, 0), all ? 1 : Check.UNKNOWN);
            Check.due("v" + version + " answers", x.told(5), all ? 0 : 1);
            Check.due("v" + version + " transcript off", x.choose(2, false, 0), 1);
            Check.due("v" + version + " screen", x.choose(1, true, 0), 1);
        }
    }

    private static void screenOnAndOff() {
        Machine x = new Machine(1);
        Check.due("screen off", x.choose(1, false, 0), 1);
        Check.due("sign to none", x.sign(65), 0);
        Check.due("none came", x.told(0), 0);
        Check.due("none is lost", x.told(4), 0);
        Check.due("screen on", x.choose(1, true, -5), 1);
        Check.due("sign to screen", x.sign(66), 1);
        Check.due("shown", Check.screen(x), "B");
        Check.due("no rows", x.told(10), 0);
    }

    private static void transcriptChosen() {
        Machine x = new Machine(2);
        x.poke(17, 254);
        x.answer(-9);
        Check.due("refused by NONE", x.choose(2, true, 0), Check.REFUSED);
        Check.due("bit stays", x.peek(17), 254);
        Check.due("refused without an answer", x.choose(2, true, 0), Check.REFUSED);
        x.answer(3);
        x.answer(4);
        Check.due("on", x.choose(2, true, 0), 1);
        Check.due("other bits stay", x.peek(17), 255);
        Check.due("its file", x.told(8), 3);
        Check.due("a text is made", x.fileOf(3, 0), 0);
        Check.due("on again", x.choose(2, true, 0), 1);
        Check.due("asks once", x.told(5), 1);
        Check.due("off", x.choose(2, false, 0), 1);
        Check.due("bit is 0", x.peek(17), 254);
        Check.due("file is kept", x.told(8), 3);
        Check.due("sign to screen alone", x.sign(65), 1);
        x.choose(2, true, 0);
        Check.due("sign to both", x.sign(66), 2);
        x.choose(1, false, 0);
        Check.due("sign to transcript alone", x.sign(67), 1);
        Check.due("its text", Check.text(x, 3), "BC");
        Check.due("told", x.told(1), 2);
        Check.due("rows", Check.rows(x), "0:-9 0:-9 0:3 1:3");
    }

    private static void transcriptGetsOtherFiles() {
        Machine x = new Machine(5);
        Check.writePart(x, 1, 0, 3);
        Check.writeText(x, 2, "old");
        x.answer(1);
        Check.due("a part is of the other kind", x.choose(2, true, 0), Check.KIND);
        Check.due("bit stays 0", x.peek(17), 0);
        Check.due("it has no file", x.told(8), Check.NONE);
        Check.due("the answer is gone", x.told(5), 0);
        Check.due("the part stays", x.fileOf(1, 1), 3);
        x.answer(2);
        Check.due("a text that is there", x.choose(2, true, 0), 1);
        Check.sign(x, "new");
        Check.due("comes behind", Check.text(x, 2), "old/new");
        Check.due("no file was made", Check.rows(x), "0:1 0:2 1:2 0:1 0:2");
    }

    private static void transcriptByTheBit() {
        Machine x = new Machine(5);
        x.transcript(true);
        Check.due("nothing is asked for", x.told(10), 0);
        Check.due("lost without an answer", x.sign(65), 1);
        x.answer(-9);
        Check.due("lost by NONE", x.sign(66), 1);
        Check.writePart(x, 4, 0, 1);
        x.answer(4);
        Check.due("lost by KIND", x.sign(67), 1);
        Check.due("lost", x.told(4), 3);
        Check.due("no file yet", x.told(8), Check.NONE);
        x.answer(5);
        Check.due("it gets one", x.sign(68), 2);
        Check.due("text", Check.text(x, 5), "D");
        Check.due("lost no more", x.told(4), 3);
        x.poke(17, 2);
        Check.due("the bit is 0 by poke", x.sign(69), 1);
        x.poke(17, 3);
        Check.due("the bit is 1 by poke", x.sign(70), 2);
        Check.due("rows", Check.rows(x), "0:-9 0:-9 0:4 0:4 0:5 1:5");
    }

    private static void transcriptLosesSigns() {
        Machine x = new Machine(5);
        x.answer(0);
        x.choose(2, true, 0);
        for (int i = 0; i < 400; i++) {
            Check.due("sign " + i, x.sign(32 + i % 95), 2);
        }
        Check.due("full", x.sign(65), 1);
        Check.due("400 bytes", x.fileOf(0, 1), 400);
        Check.due("400 came", x.told(1), 400);
        Check.due("one is lost", x.told(4), 1);
        Check.due("last byte", x.byteOf(0, 399), 32 + 399 % 95);
        x.drop(0);
        Check.due("not there", x.sign(65), 1);
        Check.due("chosen again it asks for none", x.choose(2, true, 0), 1);
        Check.due("its number is kept", x.told(8), 0);
        Check.due("still not there", x.sign(65), 1);
        Check.writePart(x, 0, 0, 4);
        Check.due("a part", x.sign(65), 1);
        Check.due("all lost", x.told(4), 4);
        Check.due("the part stays", x.fileOf(0, 1), 4);
    }

    private static void tablesNest() {
        Machine x = new Machine(5);
        x.answer(0);
        x.choose(2, true, 0);
        x.poke(100, 9);
        x.poke(101, 9);
        for (int i = 0; i < 16; i++) {
            Check.due("depth " + i, x.depth(), i);
            Check.due("open " + i, x.choose(3, true, 100 + 50 * i), 1);
            Check.sign(x, "abcdefghijklmnop".substring(0, i));
        }
        Check.due("17 is too deep", x.choose(3, true, 900), Check.DEEP);
        Check.due("deep ahead of memory", x.choose(3, true, -1), Check.DEEP);
        Check.due("depth 16", x.depth(), 16);
        for (int i = 0; i < 16; i++) {
            Check.due("address " + i, x.table(i, 0), 100 + 50 * i);
            Check.due("count " + i, x.table(i, 1), i);
        }
        Check.due("no count ahead of the close", x.peek(101), 9);
        for (int i = 15; i >= 0; i--) {
            Check.due("close " + i, x.choose(3, false, Check.MOST), 1);
            Check.due("high " + i, x.peek(100 + 50 * i), 0);
            Check.due("low " + i, x.peek(101 + 50 * i), i);
            Check.due("depth after " + i, x.depth(), i);
        }
        Check.due("last sign of table 3", x.peek(100 + 150 + 2 + 2), (int) 'c');
        Check.due("close none", x.choose(3, false, 0), 1);
        Check.due("no row for none", x.told(10), 18);
        Check.due("a row each", x.order(2, 0) * 100 + x.order(2, 1), 215);
        Check.due("last row", x.order(17, 0) * 100 + x.order(17, 1), 200);
        Check.due("signs into tables", x.told(2), 120);
        Check.due("none to screen", x.told(0), 0);
        Check.due("none to transcript", x.told(1), 0);
        x.choose(3, true, 100);
        Check.due("a new table counts from 0", x.table(0, 1), 0);
        x.choose(3, true, 100);
        x.sign(65);
        x.choose(3, false, 0);
        Check.due("the outer one goes on", x.sign(66), 1);
        Check.due("with its own count", x.table(0, 1), 1);
        Check.due("in its own place", x.peek(102), 66);
    }

    private static void tablesAtTheEdges() {
        Machine x = new Machine(8);
        for (int address : new int[] {Check.LEAST, -2, -1, 1999, 2000, Check.MOST - 1, Check.MOST}) {
            Check.due("open at " + address, x.choose(3, true, address), Check.MEMORY);
        }
        Check.due("open at 1998", x.choose(3, true, 1998), 1);
        Check.due("no byte for a sign", x.sign(65), Check.MEMORY);
        Check.due("count stays", x.table(0, 1), 0);
        Check.due("not into tables", x.told(2), 0);
        Check.due("not lost", x.told(4), 0);
        Check.due("open at 0", x.choose(3, true, 0), 1);
        for (int i = 0; i < 300; i++) {
            x.sign(48 + i % 10);
        }
        x.choose(3, false, 0);
        Check.due("higher byte first", x.peek(0), 1);
        Check.due("lower byte", x.peek(1), 44);
        Check.due("first sign", x.peek(2), 48);
        Check.due("last sign", x.peek(301), 57);
        Check.due("no more", x.peek(302), 0);
        Check.due("close at 1998", x.choose(3, false, 0), 1);
        Check.due("closed", Check.rows(x), "2:300 2:0");
    }

    private static void tablesOverTheBit() {
        Machine x = new Machine(8);
        x.choose(3, true, 15);
        x.sign(35);
        x.choose(3, false, 0);
        x.answer(1);
        Check.due("a sign in byte 17 is the bit", x.sign(65), 2);
        x.choose(3, true, 16);
        x.choose(3, false, 0);
        Check.due("the count is the bit", x.peek(17), 0);
        Check.due("off again", x.sign(65), 1);
    }

    private static void tablesOfOldVersions() {
        for (int version = 3; version <= 8; version++) {
            Machine x = new Machine(version);
            Check.due("first", x.choose(3, true, 10), 1);
            Check.due("second in version " + version, x.choose(3, true, 20), version < 5 ? Check.DEEP : 1);
            Check.due("depth", x.depth(), version < 5 ? 1 : 2);
        }
    }

    private static void commandsChosen() {
        Machine x = new Machine(3);
        Check.due("refused", x.choose(4, true, 0), Check.REFUSED);
        Check.due("off", x.told(9), Check.NONE);
        Check.writePart(x, 2, 0, 9);
        x.answer(2);
        Check.due("a part becomes a text", x.choose(4, true, 0), 1);
        Check.due("its file", x.told(9), 2);
        Check.due("a text", x.fileOf(2, 0), 0);
        Check.due("without signs", x.fileOf(2, 1), 0);
        x.answer(-9);
        Check.due("refused again", x.choose(4, true, 0), Check.REFUSED);
        Check.due("it keeps its file", x.told(9), 2);
        Check.due("signs do not come to it", x.sign(65), 1);
        Check.type(x, "go/");
        x.line(9);
        Check.due("lines do", Check.text(x, 2), "go/");
        x.answer(2);
        Check.due("again", x.choose(4, true, 0), 1);
        Check.due("empty again", x.fileOf(2, 1), 0);
        x.answer(3);
        Check.due("another one", x.choose(4, true, 0), 1);
        Check.due("its file", x.told(9), 3);
        Check.due("the text is kept when it goes off", x.choose(4, false, 0), 1);
        Check.due("off again", x.told(9), Check.NONE);
        Check.due("off twice", x.choose(4, false, 0), 1);
        Check.due("there", x.fileOf(3, 0), 0);
        Check.due("rows", Check.rows(x), "0:-9 0:2 0:2 1:2 0:-9 0:2 1:2 0:3 1:3");
    }

    private static void signsOutside() {
        Machine x = new Machine(5);
        for (int c : new int[] {Check.LEAST, -13, -1, 0, 10, 12, 14, 31, 127, 128, 255, 13 + 256, Check.MOST}) {
            Check.due("sign " + c, x.sign(c), Check.OUTSIDE);
        }
        for (int c : new int[] {13, 32, 126}) {
            Check.due("sign " + c, x.sign(c), 1);
        }
        x.choose(3, true, 0);
        Check.due("into a table", x.sign(127), Check.OUTSIDE);
        Check.due("count", x.table(0, 1), 0);
        Check.due("13 into a table", x.sign(13), 1);
        Check.due("memory", x.peek(2), 13);
        Check.due("came", x.told(0), 3);
    }

    private static void tableAsked() {
        Machine x = new Machine(5);
        Check.due("none", x.table(0, 0), Check.UNKNOWN);
        x.choose(3, true, 7);
        Check.due("address", x.table(0, 0), 7);
        for (int i : new int[] {Check.LEAST, -1, 1, 16, Check.MOST}) {
            Check.due("table " + i, x.table(i, 0), Check.UNKNOWN);
            Check.due("unknown ahead of outside " + i, x.table(i, 2), Check.UNKNOWN);
        }
        for (int what : new int[] {Check.LEAST, -1, 2, Check.MOST}) {
            Check.due("what " + what, x.table(0, what), Check.OUTSIDE);
        }
    }

    private static void shownSigns() {
        Machine x = new Machine(1);
        for (int i = 0; i < 150; i++) {
            int c = 32 + i % 95;
            x.sign(c);
            Check.due("latest " + i, x.shown(0), c);
            Check.due("99 ago at " + i, x.shown(99), i < 99 ? Check.NONE : 32 + (i - 99) % 95);
        }
        Check.due("50 ago", x.shown(50), 32 + 99 % 95);
        for (int ago : new int[] {Check.LEAST, -1, 100, 101, 149, Check.MOST}) {
            Check.due("ago " + ago, x.shown(ago), Check.NONE);
        }
        Check.due("all came", x.told(0), 150);
    }

    private static void transcriptBit() {
        Machine x = new Machine(4);
        x.poke(17, 170);
        x.answer(0);
        Check.due("was 0", x.transcript(true), 0);
        Check.due("the others stay", x.peek(17), 171);
        Check.due("was 1", x.transcript(true), 1);
        Check.due("was 1 still", x.transcript(false), 1);
        Check.due("the others stay again", x.peek(17), 170);
        Check.due("was 0 again", x.transcript(false), 0);
        Check.due("nothing was asked for", x.told(5), 1);
        Check.due("no file", x.told(8), Check.NONE);
    }
}
