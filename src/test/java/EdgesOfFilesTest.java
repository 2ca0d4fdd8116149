import java.util.Map;

/** The edges that part 1 and promises 8 to 15 name, a test of its own for each sentence. */
public final class EdgesOfFilesTest {
    private static final String PART = "part 1", SAVE = "promise 14", LOAD = "promise 15";

    public static void main(String[] args) {
        memoryAtFirst();
        higherByteFirst();
        theBit();
        filesAtFirst();
        fourHundredBytes();
        answersInTheirOrder();
        refusedWithoutAnswer();
        refusedByNone();
        refusedSignToTranscript();
        peeked();
        poked();
        pokedOutside();
        answersOutside();
        answersRoom();
        filesAsked();
        filesUnknown();
        filesOutside();
        bytesAsked();
        bytesUnknown();
        dropped();
        droppedUnknown();
        droppedFilesKeepTheirNumbers();
        savedOverAny();
        savedRoom();
        savedSize();
        savedMemory();
        savedRefused();
        loadedFirstBytes();
        loadedHowMany();
        loadedRefused();
        loadedFromText();
        loadedFromNone();
        loadedSize();
        loadedShort();
        loadedMemory();
        Check.end();
    }

    // ---- part 1

    private static void memoryAtFirst() {
        Check.sentence(PART, "THE MEMORY has 2000 bytes, 0 at first.");
        for (int from = 0; from < 2000; from += 500) {
            Machine x = new Machine(5);
            for (int at = from; at < from + 500; at++) {
                Check.due("byte " + at, x.peek(at), 0);
            }
            Check.due("byte 2000", x.peek(2000), Check.UNKNOWN);
            Check.due("byte -1", x.peek(-1), Check.UNKNOWN);
        }
    }

    private static void higherByteFirst() {
        Check.sentence(PART, "TWO is two of them side by side, the higher first.");
        Machine x = new Machine(5);
        x.choose(3, true, 400);
        for (int i = 0; i < 300; i++) {
            x.sign(65);
        }
        x.choose(3, false, 0);
        Check.due("300", Check.bytes(x, 399, 4), "0 1 44 65");
    }

    private static void theBit() {
        Check.sentence(PART, "THE BIT is the lowest one of byte 17.");
        for (int v = 0; v <= 255; v++) {
            Machine x = new Machine(5);
            x.poke(17, v);
            Check.due("put to 1 in " + v, x.transcript(true), v % 2);
            Check.due("then byte 17", x.peek(17), v | 1);
            Check.due("put to 0", x.transcript(false), 1);
            Check.due("then byte 17", x.peek(17), v & 254);
            Check.due("its neighbours", x.peek(16) + x.peek(18), 0);
        }
    }

    private static void filesAtFirst() {
        Check.sentence(PART, "FILES 0 .. 5 are not there at first");
        Machine x = new Machine(5);
        for (int name = 0; name <= 5; name++) {
            Check.due("kind of " + name, x.fileOf(name, 0), Check.NONE);
            Check.due("length of " + name, x.fileOf(name, 1), 0);
            Check.due("byte of " + name, x.byteOf(name, 0), Check.UNKNOWN);
            Check.due("drop " + name, x.drop(name), 0);
        }
        Check.due("file 6", x.fileOf(6, 0), Check.UNKNOWN);
        Check.due("file -1", x.fileOf(-1, 0), Check.UNKNOWN);
    }

    private static void fourHundredBytes() {
        Check.sentence(PART, "of 400 bytes at most.");
        Machine x = new Machine(5);
        x.answer(0);
        x.choose(2, true, 0);
        for (int i = 0; i < 399; i++) {
            x.sign(65);
        }
        Check.due("sign 400", x.sign(66), 2);
        Check.due("sign 401", x.sign(67), 1);
        Check.due("bytes of the TEXT", x.fileOf(0, 1), 400);
        Check.due("byte 399", x.byteOf(0, 399), 66);
        Check.due("byte 400", x.byteOf(0, 400), Check.UNKNOWN);
        x.answer(1);
        x.poke(400, 7);
        x.poke(401, 8);
        Check.due("a PART of 401", x.save(1, 401), Check.ROOM);
        Check.due("a PART of 400", x.save(1, 400), 1);
        Check.due("bytes of the PART", x.fileOf(1, 1), 400);
        Check.due("byte 399", x.byteOf(1, 399), 7);
        Check.due("byte 400", x.byteOf(1, 400), Check.UNKNOWN);
    }

    private static void answersInTheirOrder() {
        Check.sentence(PART, "the next one of the ANSWERS is taken, which were told ahead: a file's number, or NONE");
        Machine x = new Machine(5);
        int[] names = {2, 0, -9, 5, 5, 1, -9, 3};
        for (int round = 0; round < 3; round++) {
            for (int name : names) {
                x.answer(name);
            }
            for (int name : names) {
                int row = x.told(10);
                Check.due("taken", x.save(0, 0), name == -9 ? Check.REFUSED : 1);
                Check.due("the row's kind", x.order(row, 0), 0);
                Check.due("the row's number", x.order(row, 1), name);
            }
        }
        x.answer(4);
        x.save(0, 0);
        x.answer(2);
        x.answer(3);
        x.save(0, 0);
        x.answer(1);
        x.save(0, 0);
        x.save(0, 0);
        Check.due("told and taken by turns", Check.rows(x).substring(Check.rows(x).indexOf("0:4")), "0:4 0:2 0:3 0:1");
    }

    private static void refusedWithoutAnswer() {
        Check.sentence(PART, "Where there is none, or it is NONE, the act ends REFUSED: nothing else of it is done");
        Machine x = Scenes.busy();
        for (int i = 0; i < 3; i++) {
            x.save(0, 0);
        }
        Call[] acts = {new Call("choose 4", z -> z.choose(4, true, 0)), new Call("save", z -> z.save(0, 3)),
            new Call("load", z -> z.load(0, 0)), new Call("source", z -> z.source(true))};
        for (Call act : acts) {
            int row = x.told(10);
            Map<String, Object> before = x.sight();
            Check.due(act.text(), act.on(x), Check.REFUSED);
            Check.due(act.text() + " changed", x.changed(before),
                "order " + row + " 0, order " + row + " 1, told 10");
            Check.due("its row", x.order(row, 0) * 100 + x.order(row, 1), Check.NONE);
        }
        Machine y = new Machine(5);
        Map<String, Object> before = y.sight();
        Check.due("choose 2", y.choose(2, true, 0), Check.REFUSED);
        Check.due("choose 2 changed", y.changed(before), "order 0 0, order 0 1, told 10");
    }

    private static void refusedByNone() {
        Check.sentence(PART, "(the ANSWER is gone)");
        Call[] acts = {new Call("choose 4", z -> z.choose(4, true, 0)), new Call("save", z -> z.save(0, 3)),
            new Call("load", z -> z.load(0, 0)), new Call("source", z -> z.source(true)),
            new Call("choose 2", z -> z.choose(2, true, 0))};
        for (Call act : acts) {
            Machine x = new Machine(5);
            x.answer(-9);
            x.answer(3);
            Map<String, Object> before = x.sight();
            Check.due(act.text(), act.on(x), Check.REFUSED);
            Check.due(act.text() + " changed", x.changed(before), "answers, order 0 0, order 0 1, told 10, told 5");
            Check.due("one waits", x.told(5), 1);
            Check.due("it is the other one", x.save(0, 0) * 10 + x.fileOf(3, 0), 11);
        }
    }

    private static void refusedSignToTranscript() {
        Check.sentence(PART, "where a file is wanted its name is ASKED for");
        Machine x = new Machine(5);
        x.transcript(true);
        x.choose(1, false, 0);
        x.answer(-9);
        x.answer(3);
        Map<String, Object> before = x.sight();
        Check.due("a sign", x.sign(65), 0);
        Check.due("it changed", x.changed(before), "answers, order 0 0, order 0 1, told 10, told 4, told 5");
        Check.due("the next sign", x.sign(66), 1);
        Check.due("the file's text", Check.text(x, 3), "B");
    }

    // ---- promises 8 and 9

    private static void peeked() {
        Check.sentence("promise 8", "A byte of the memory (0 .. 255). UNKNOWN.");
        Machine x = new Machine(5);
        x.poke(0, 255);
        x.poke(1999, 128);
        Check.due("the first", x.peek(0), 255);
        Check.due("the last", x.peek(1999), 128);
        for (int at : new int[] {Check.LEAST, -2000, -1, 2000, 2001, 65536, Check.MOST}) {
            Check.due("peek " + at, x.peek(at), Check.UNKNOWN);
        }
    }

    private static void poked() {
        Check.sentence("promise 9", "A byte becomes v: what it was. UNKNOWN");
        Machine x = new Machine(5);
        for (int at : new int[] {0, 1, 17, 1998, 1999}) {
            Check.due("255 at " + at, x.poke(at, 255), 0);
            Check.due("0 at " + at, x.poke(at, 0), 255);
            Check.due("1 at " + at, x.poke(at, 1), 0);
            Check.due("byte " + at, x.peek(at), 1);
        }
        Map<String, Object> before = x.sight();
        for (int at : new int[] {Check.LEAST, -2000, -1, 2000, 2001, Check.MOST}) {
            Check.due("poke " + at, x.poke(at, 9), Check.UNKNOWN);
        }
        Check.due("they changed", x.changed(before), "");
    }

    private static void pokedOutside() {
        Check.sentence("promise 9", "OUTSIDE: v is not 0 .. 255.");
        Machine x = new Machine(5);
        x.poke(9, 100);
        for (int v : new int[] {Check.LEAST, -256, -1, 256, 257, 65536, Check.MOST}) {
            Check.due("poke of " + v, x.poke(9, v), Check.OUTSIDE);
            Check.due("the byte stays", x.peek(9), 100);
        }
        Check.due("poke of 0", x.poke(9, 0), 100);
        Check.due("poke of 255", x.poke(9, 255), 0);
        Check.due("the byte", x.peek(9), 255);
    }

    // ---- promise 10

    private static void answersOutside() {
        Check.sentence("promise 10", "OUTSIDE: neither a file nor NONE");
        Machine x = new Machine(5);
        for (int name : new int[] {Check.LEAST, -10, -8, -5, -1, 6, 7, Check.MOST}) {
            Check.due("answer " + name, x.answer(name), Check.OUTSIDE);
        }
        Check.due("none waits", x.told(5), 0);
        int[] names = {-9, 0, 1, 2, 3, 4, 5};
        for (int i = 0; i < names.length; i++) {
            Check.due("answer " + names[i], x.answer(names[i]), i + 1);
        }
    }

    private static void answersRoom() {
        Check.sentence("promise 10", "ROOM: 8 wait.");
        Machine x = new Machine(5);
        for (int i = 1; i <= 8; i++) {
            Check.due("answer " + i, x.answer(i % 6), i);
        }
        Map<String, Object> before = x.sight();
        Check.due("a ninth", x.answer(0), Check.ROOM);
        Check.due("a ninth that is NONE", x.answer(-9), Check.ROOM);
        Check.due("they changed", x.changed(before), "");
        x.save(0, 0);
        Check.due("one was taken", x.answer(5), 8);
        Check.due("full again", x.answer(5), Check.ROOM);
    }

    // ---- promises 11 and 12

    private static void filesAsked() {
        Check.sentence("promise 11", "what = 0: 0 a TEXT, 1 a PART, NONE: it is not there; 1: how many bytes it has (0 so)");
        Machine x = new Machine(5);
        Check.due("not there", x.fileOf(3, 0), Check.NONE);
        Check.due("its bytes", x.fileOf(3, 1), 0);
        Check.writeEmptyText(x, 3);
        Check.due("an empty TEXT", x.fileOf(3, 0), 0);
        Check.due("its bytes", x.fileOf(3, 1), 0);
        Check.writePart(x, 3, 0, 0);
        Check.due("an empty PART", x.fileOf(3, 0), 1);
        Check.due("its bytes", x.fileOf(3, 1), 0);
        Check.writePart(x, 3, 0, 400);
        Check.due("a full PART", x.fileOf(3, 1), 400);
        x.drop(3);
        Check.due("dropped", x.fileOf(3, 0), Check.NONE);
        Check.due("its bytes", x.fileOf(3, 1), 0);
    }

    private static void filesUnknown() {
        Check.sentence("promise 11", "UNKNOWN; OUTSIDE.");
        Machine x = new Machine(5);
        for (int name : new int[] {Check.LEAST, -9, -1, 6, Check.MOST}) {
            Check.due("kind of " + name, x.fileOf(name, 0), Check.UNKNOWN);
            Check.due("bytes of " + name, x.fileOf(name, 1), Check.UNKNOWN);
            Check.due("what 2 of " + name, x.fileOf(name, 2), Check.UNKNOWN);
        }
    }

    private static void filesOutside() {
        Check.sentence("promise 11", "OUTSIDE.");
        Machine x = new Machine(5);
        Check.writePart(x, 0, 0, 1);
        for (int what : new int[] {Check.LEAST, -1, 2, 3, Check.MOST}) {
            Check.due("what " + what + " of one that is there", x.fileOf(0, what), Check.OUTSIDE);
            Check.due("what " + what + " of one that is not", x.fileOf(5, what), Check.OUTSIDE);
        }
    }

    private static void bytesAsked() {
        Check.sentence("promise 12", "Byte i of a file (0 .. 255).");
        Machine x = new Machine(5);
        x.poke(10, 255);
        x.poke(11, 0);
        x.poke(12, 128);
        Check.writePart(x, 0, 10, 3);
        Check.due("255", x.byteOf(0, 0), 255);
        Check.due("0", x.byteOf(0, 1), 0);
        Check.due("128", x.byteOf(0, 2), 128);
        Check.writeText(x, 5, "~");
        Check.due("a sign", x.byteOf(5, 0), 126);
        Check.due("the end of a line", x.byteOf(5, 1), 13);
    }

    private static void bytesUnknown() {
        Check.sentence("promise 12", "UNKNOWN: also, it is not there, or has no such byte.");
        Machine x = new Machine(5);
        Check.writePart(x, 0, 0, 3);
        Check.writeEmptyText(x, 1);
        for (int i : new int[] {Check.LEAST, -1, 3, 4, 400, Check.MOST}) {
            Check.due("byte " + i, x.byteOf(0, i), Check.UNKNOWN);
        }
        Check.due("a byte of an empty one", x.byteOf(1, 0), Check.UNKNOWN);
        Check.due("a byte of none", x.byteOf(2, 0), Check.UNKNOWN);
        for (int name : new int[] {Check.LEAST, -9, -1, 6, Check.MOST}) {
            Check.due("a byte of " + name, x.byteOf(name, 0), Check.UNKNOWN);
        }
        x.drop(0);
        Check.due("a byte of one that was dropped", x.byteOf(0, 0), Check.UNKNOWN);
        Check.writePart(x, 0, 0, 1);
        Check.due("a byte that it had before", x.byteOf(0, 1), Check.UNKNOWN);
    }

    // ---- promise 13

    private static void dropped() {
        Check.sentence("promise 13", "A file is there no more: 1; 0: it was not.");
        Machine x = new Machine(5);
        Check.due("one that never was", x.drop(5), 0);
        Check.writePart(x, 5, 0, 4);
        Check.writeEmptyText(x, 0);
        Map<String, Object> before = x.sight();
        Check.due("a PART", x.drop(5), 1);
        Check.due("it changed", x.changed(before),
            "byte 5 0, byte 5 1, byte 5 2, byte 5 3, kind 5, length 5");
        Check.due("again", x.drop(5), 0);
        Check.due("an empty TEXT", x.drop(0), 1);
        Check.due("again", x.drop(0), 0);
    }

    private static void droppedUnknown() {
        Check.sentence("promise 13", "UNKNOWN.");
        Machine x = Scenes.busy();
        Map<String, Object> before = x.sight();
        for (int name : new int[] {Check.LEAST, -9, -1, 6, 7, Check.MOST}) {
            Check.due("drop " + name, x.drop(name), Check.UNKNOWN);
        }
        Check.due("they changed", x.changed(before), "");
    }

    private static void droppedFilesKeepTheirNumbers() {
        Check.sentence("promise 13", "(Whose file it was keeps its number.)");
        Machine x = new Machine(5);
        Check.writeText(x, 2, "abc");
        x.answer(0);
        x.choose(2, true, 0);
        x.answer(1);
        x.choose(4, true, 0);
        x.answer(2);
        x.source(true);
        for (int name = 0; name <= 2; name++) {
            Check.due("drop " + name, x.drop(name), 1);
        }
        Check.due("transcript's", x.told(8), 0);
        Check.due("commands'", x.told(9), 1);
        Check.due("the source", x.told(7), 2);
        Check.writeText(x, 0, "new");
        x.transcript(true);
        x.sign(65);
        Check.due("when there is one again it goes on", Check.text(x, 0).endsWith("A"), true);
    }

    // ---- promise 14

    private static void savedOverAny() {
        Check.sentence(SAVE, "n bytes of the memory from a place on are a PART, whatever the file was: 1.");
        Machine x = new Machine(5);
        x.poke(100, 200);
        x.poke(101, 201);
        x.answer(0);
        Check.due("over none", x.save(100, 2), 1);
        Check.due("a PART of 2", x.fileOf(0, 0) * 1000 + x.fileOf(0, 1), 1002);
        Check.due("its bytes", x.byteOf(0, 0) * 1000 + x.byteOf(0, 1), 200201);
        x.answer(0);
        Check.due("over a longer PART", x.save(101, 1), 1);
        Check.due("a PART of 1", x.fileOf(0, 1) * 1000 + x.byteOf(0, 0), 1201);
        Check.writeText(x, 1, "text");
        x.answer(1);
        Check.due("over a TEXT", x.save(99, 3), 1);
        Check.due("a PART of 3", x.fileOf(1, 0) * 1000 + x.fileOf(1, 1), 1003);
        Check.due("its bytes", x.byteOf(1, 0) * 1000 + x.byteOf(1, 1), 200);
        x.answer(1);
        Check.due("0 bytes", x.save(0, 0), 1);
        Check.due("an empty PART", x.fileOf(1, 0) * 1000 + x.fileOf(1, 1), 1000);
        Check.due("no file was made by a stream", Check.rows(x), "0:0 0:0 0:1 1:1 0:1 0:1");
    }

    private static void savedRoom() {
        Check.sentence(SAVE, "ROOM: n is above 400.");
        Machine x = new Machine(5);
        x.answer(0);
        Map<String, Object> before = x.sight();
        for (int n : new int[] {401, 402, 2000, 2001, Check.MOST}) {
            Check.due("save " + n, x.save(0, n), Check.ROOM);
            Check.due("save " + n + " where there is no memory", x.save(-1, n), Check.ROOM);
        }
        Check.due("they changed", x.changed(before), "");
        Check.due("save 400", x.save(0, 400), 1);
        Check.due("its bytes", x.fileOf(0, 1), 400);
    }

    private static void savedSize() {
        Check.sentence(SAVE, "SIZE; MEMORY");
        Machine x = new Machine(5);
        x.answer(0);
        Map<String, Object> before = x.sight();
        for (int n : new int[] {-1, -2, -401, Check.LEAST}) {
            Check.due("save " + n, x.save(0, n), Check.SIZE);
            Check.due("save " + n + " where there is no memory", x.save(2001, n), Check.SIZE);
        }
        Check.due("they changed", x.changed(before), "");
    }

    private static void savedMemory() {
        Check.sentence(SAVE, "MEMORY; then the name is ASKED for (REFUSED).");
        Machine x = new Machine(5);
        x.answer(0);
        Map<String, Object> before = x.sight();
        int[][] wrong = {{-1, 0}, {-1, 1}, {-1, 2}, {2001, 0}, {2000, 1}, {1999, 2}, {1601, 400}, {Check.LEAST, 1},
            {Check.MOST, 0}, {Check.MOST, 1}, {Check.MOST - 399, 400}};
        for (int[] w : wrong) {
            Check.due("save " + w[0] + " " + w[1], x.save(w[0], w[1]), Check.MEMORY);
        }
        Check.due("they changed", x.changed(before), "");
        int[][] right = {{2000, 0}, {1999, 1}, {1600, 400}, {0, 0}, {0, 400}};
        for (int[] r : right) {
            x.answer(0);
            Check.due("save " + r[0] + " " + r[1], x.save(r[0], r[1]), 1);
        }
    }

    private static void savedRefused() {
        Check.sentence(SAVE, "then the name is ASKED for (REFUSED)");
        Machine x = new Machine(5);
        Check.writeText(x, 0, "text");
        Map<String, Object> before = x.sight();
        Check.due("no answer", x.save(0, 400), Check.REFUSED);
        Check.due("it changed", x.changed(before), "order 2 0, order 2 1, told 10");
        x.answer(-9);
        Check.due("NONE", x.save(0, 400), Check.REFUSED);
        Check.due("the text stays", Check.text(x, 0), "text/");
    }

    // ---- promise 15

    private static Machine withPart(int name, int n) {
        Machine x = new Machine(5);
        for (int i = 0; i < n; i++) {
            x.poke(50 + i, 101 + i);
        }
        Check.writePart(x, name, 50, n);
        x.answer(name);
        return x;
    }

    private static void loadedFirstBytes() {
        Check.sentence(LOAD, "The first n bytes of a PART come into the memory from a place on");
        Machine x = withPart(3, 5);
        x.poke(999, 9);
        x.poke(1003, 8);
        Map<String, Object> before = x.sight();
        Check.due("3 of 5", x.load(1000, 3), 5);
        Check.due("it changed", x.changed(before),
            "answers, order 1 0, order 1 1, peek 1000, peek 1001, peek 1002, told 10, told 5");
        Check.due("the bytes", Check.bytes(x, 999, 5), "9 101 102 103 8");
        Machine y = withPart(3, 5);
        before = y.sight();
        Check.due("0 of 5", y.load(1000, 0), 5);
        Check.due("it changed", y.changed(before), "answers, order 1 0, order 1 1, told 10, told 5");
        Machine z = withPart(3, 5);
        Check.due("5 of 5 at the end", z.load(1995, 5), 5);
        Check.due("the bytes", Check.bytes(z, 1995, 5), "101 102 103 104 105");
    }

    private static void loadedHowMany() {
        Check.sentence(LOAD, "how many the PART has");
        for (int length : new int[] {0, 1, 400}) {
            Machine x = withPart(0, length);
            Check.due("none of " + length, x.load(0, 0), length);
            x.answer(0);
            Check.due("all of " + length, x.load(0, length), length);
        }
    }

    private static void loadedRefused() {
        Check.sentence(LOAD, "The name is ASKED for (REFUSED)");
        Machine x = new Machine(5);
        Check.writePart(x, 0, 0, 3);
        Map<String, Object> before = x.sight();
        Check.due("no answer", x.load(0, 3), Check.REFUSED);
        Check.due("it changed", x.changed(before), "order 1 0, order 1 1, told 10");
        x.answer(-9);
        Check.due("NONE", x.load(0, 3), Check.REFUSED);
        Check.due("the answer is gone", x.told(5), 0);
        Check.due("refused ahead of size", x.load(0, -1), Check.REFUSED);
        Check.due("refused ahead of memory", x.load(-1, 1), Check.REFUSED);
    }

    private static void loadedFromText() {
        Check.sentence(LOAD, "KIND");
        Machine x = new Machine(5);
        Check.writeText(x, 4, "text");
        x.answer(4);
        Map<String, Object> before = x.sight();
        Check.due("from a TEXT", x.load(0, 5), Check.KIND);
        Check.due("it changed", x.changed(before), "answers, order 2 0, order 2 1, told 10, told 5");
    }

    private static void loadedFromNone() {
        Check.sentence(LOAD, "KIND; MISSING");
        Machine x = new Machine(5);
        x.answer(4);
        Map<String, Object> before = x.sight();
        Check.due("from none", x.load(0, 0), Check.MISSING);
        Check.due("it changed", x.changed(before), "answers, order 0 0, order 0 1, told 10, told 5");
        Check.due("it is not made", x.fileOf(4, 0), Check.NONE);
    }

    private static void loadedSize() {
        Check.sentence(LOAD, "KIND; MISSING; SIZE");
        for (int n : new int[] {-1, -2, -2000, Check.LEAST}) {
            Machine x = withPart(1, 5);
            Map<String, Object> before = x.sight();
            Check.due("load " + n, x.load(10, n), Check.SIZE);
            Check.due("it changed", x.changed(before), "answers, order 1 0, order 1 1, told 10, told 5");
        }
    }

    private static void loadedShort() {
        Check.sentence(LOAD, "KIND; MISSING; SIZE; SHORT");
        for (int n : new int[] {6, 7, 401, 2001, Check.MOST}) {
            Machine x = withPart(1, 5);
            Map<String, Object> before = x.sight();
            Check.due("load " + n, x.load(10, n), Check.SHORT);
            Check.due("it changed", x.changed(before), "answers, order 1 0, order 1 1, told 10, told 5");
        }
    }

    private static void loadedMemory() {
        Check.sentence(LOAD, "SHORT; MEMORY.");
        int[][] wrong = {{-1, 1}, {-5, 5}, {1996, 5}, {2000, 1}, {2001, 0}, {-1, 0}, {Check.MOST, 5}, {Check.LEAST, 5}};
        for (int[] w : wrong) {
            Machine x = withPart(1, 5);
            Map<String, Object> before = x.sight();
            Check.due("load " + w[0] + " " + w[1], x.load(w[0], w[1]), Check.MEMORY);
            Check.due("it changed", x.changed(before), "answers, order 1 0, order 1 1, told 10, told 5");
        }
        int[][] right = {{0, 5}, {1995, 5}, {1999, 1}, {2000, 0}};
        for (int[] r : right) {
            Check.due("load " + r[0] + " " + r[1], withPart(1, 5).load(r[0], r[1]), 5);
        }
    }
}
