/** Promises 8 to 15: peek, poke, answer, fileOf, byteOf, drop, save, load. */
public final class FilesTest {
    public static void main(String[] args) {
        memory();
        answers();
        filesAsked();
        dropped();
        saved();
        saveRefusals();
        loaded();
        loadFaults();
        Check.end();
    }

    private static void memory() {
        Machine x = new Machine(1);
        for (int at : new int[] {Check.LEAST, -1, 2000, 2001, Check.MOST}) {
            Check.due("peek " + at, x.peek(at), Check.UNKNOWN);
            Check.due("poke " + at, x.poke(at, 1), Check.UNKNOWN);
            Check.due("poke unknown ahead of outside " + at, x.poke(at, 256), Check.UNKNOWN);
        }
        for (int v : new int[] {Check.LEAST, -1, 256, Check.MOST}) {
            Check.due("poke of " + v, x.poke(5, v), Check.OUTSIDE);
        }
        Check.due("still 0", x.peek(5), 0);
        for (int at : new int[] {0, 5, 17, 1999}) {
            Check.due("poke " + at, x.poke(at, 255), 0);
            Check.due("poke again " + at, x.poke(at, 128), 255);
            Check.due("peek " + at, x.peek(at), 128);
            Check.due("poke of 0 at " + at, x.poke(at, 0), 128);
            Check.due("0 at " + at, x.peek(at), 0);
            x.poke(at, 77);
        }
        Check.due("the neighbour", x.peek(1), 0);
        Check.due("the other neighbour", x.peek(1998), 0);
    }

    private static void answers() {
        Machine x = new Machine(5);
        for (int name : new int[] {Check.LEAST, -10, -8, -1, 6, Check.MOST}) {
            Check.due("answer " + name, x.answer(name), Check.OUTSIDE);
        }
        int[] names = {5, -9, 0, 3, 3, 1, 2, 4};
        for (int i = 0; i < names.length; i++) {
            Check.due("answer " + names[i], x.answer(names[i]), i + 1);
        }
        Check.due("8 wait", x.answer(0), Check.ROOM);
        Check.due("outside ahead of room", x.answer(6), Check.OUTSIDE);
        Check.due("NONE has no room either", x.answer(-9), Check.ROOM);
        Check.due("told", x.told(5), 8);
        for (int i = 0; i < names.length; i++) {
            Check.due("taken " + names[i], x.save(0, 0), names[i] == -9 ? Check.REFUSED : 1);
            Check.due("left", x.told(5), 7 - i);
        }
        Check.due("in their order", Check.rows(x), "0:5 0:-9 0:0 0:3 0:3 0:1 0:2 0:4");
        Check.due("room again", x.answer(-9), 1);
    }

    private static void filesAsked() {
        Machine x = new Machine(5);
        Check.writeText(x, 0, "hi");
        x.poke(9, 200);
        Check.writePart(x, 5, 9, 1);
        for (int name : new int[] {Check.LEAST, -9, -1, 6, Check.MOST}) {
            Check.due("fileOf " + name, x.fileOf(name, 0), Check.UNKNOWN);
            Check.due("fileOf unknown ahead of outside " + name, x.fileOf(name, 2), Check.UNKNOWN);
            Check.due("byteOf " + name, x.byteOf(name, 0), Check.UNKNOWN);
        }
        for (int what : new int[] {Check.LEAST, -1, 2, Check.MOST}) {
            Check.due("what " + what, x.fileOf(0, what), Check.OUTSIDE);
            Check.due("what of none " + what, x.fileOf(1, what), Check.OUTSIDE);
        }
        Check.due("text", x.fileOf(0, 0), 0);
        Check.due("text's bytes", x.fileOf(0, 1), 3);
        Check.due("part", x.fileOf(5, 0), 1);
        Check.due("part's bytes", x.fileOf(5, 1), 1);
        Check.due("none", x.fileOf(1, 0), Check.NONE);
        Check.due("none's bytes", x.fileOf(1, 1), 0);
        Check.due("byte 1", x.byteOf(0, 1), (int) 'i');
        Check.due("byte above 127", x.byteOf(5, 0), 200);
        for (int i : new int[] {Check.LEAST, -1, 3, 400, Check.MOST}) {
            Check.due("byte " + i, x.byteOf(0, i), Check.UNKNOWN);
        }
        Check.due("byte of none", x.byteOf(1, 0), Check.UNKNOWN);
    }

    private static void dropped() {
        Machine x = new Machine(5);
        for (int name : new int[] {Check.LEAST, -9, -1, 6, Check.MOST}) {
            Check.due("drop " + name, x.drop(name), Check.UNKNOWN);
        }
        Check.due("not there", x.drop(0), 0);
        x.answer(0);
        x.choose(2, true, 0);
        x.answer(1);
        x.choose(4, true, 0);
        Check.type(x, "ab/cd/");
        x.line(40);
        x.answer(1);
        x.source(true);
        Check.due("drop transcript's", x.drop(0), 1);
        Check.due("drop commands' and the source", x.drop(1), 1);
        Check.due("it is gone", x.drop(1), 0);
        Check.due("not there any more", x.fileOf(1, 0), Check.NONE);
        Check.due("no bytes", x.fileOf(1, 1), 0);
        Check.due("no byte", x.byteOf(1, 0), Check.UNKNOWN);
        Check.due("the source keeps its number", x.told(7), 1);
        Check.due("transcript keeps its number", x.told(8), 0);
        Check.due("commands keep their number", x.told(9), 1);
        x.source(false);
        x.line(40);
        Check.due("signs are lost to both", x.told(4), 6);
        Check.due("screen has them", Check.screen(x), "ab/cd/");
        Check.due("neither is made again", x.fileOf(0, 0) + x.fileOf(1, 0), 2 * Check.NONE);
        x.answer(0);
        Check.due("it may be saved anew", x.save(0, 2), 1);
        Check.due("a part now", x.fileOf(0, 0), 1);
    }

    private static void saved() {
        Machine x = new Machine(5);
        for (int i = 0; i < 450; i++) {
            x.poke(i, i % 256);
        }
        x.answer(2);
        Check.due("400 bytes", x.save(50, 400), 1);
        Check.due("length", x.fileOf(2, 1), 400);
        for (int i = 0; i < 400; i += 57) {
            Check.due("byte " + i, x.byteOf(2, i), (50 + i) % 256);
        }
        x.poke(50, 1);
        Check.due("a copy", x.byteOf(2, 0), 50);
        x.answer(2);
        Check.due("over a part", x.save(1999, 1), 1);
        Check.due("its length alone", x.fileOf(2, 1), 1);
        Check.due("rows", Check.rows(x), "0:2 0:2");
        Machine y = new Machine(5);
        Check.writeText(y, 3, "text");
        y.answer(3);
        Check.due("over a text", y.save(2000, 0), 1);
        Check.due("a part", y.fileOf(3, 0), 1);
        Check.due("of 0 bytes", y.fileOf(3, 1), 0);
    }

    private static void saveRefusals() {
        Machine x = new Machine(5);
        x.answer(1);
        Check.due("room ahead of memory", x.save(-1, 401), Check.ROOM);
        Check.due("room of the most", x.save(0, Check.MOST), Check.ROOM);
        Check.due("size ahead of memory", x.save(-1, -1), Check.SIZE);
        Check.due("size of the least", x.save(0, Check.LEAST), Check.SIZE);
        int[][] outside = {{-1, 0}, {-1, 1}, {2001, 0}, {2000, 1}, {1999, 2}, {1601, 400},
            {Check.MOST, 0}, {Check.MOST, 400}, {Check.LEAST, 400}};
        for (int[] at : outside) {
            Check.due("save " + at[0] + " " + at[1], x.save(at[0], at[1]), Check.MEMORY);
        }
        Check.due("nothing was asked for", x.told(5), 1);
        Check.due("no rows", x.told(10), 0);
        Check.due("the last 400", x.save(1600, 400), 1);
        Check.due("refused", x.save(0, 1), Check.REFUSED);
        x.answer(-9);
        Check.due("refused by NONE", x.save(0, 1), Check.REFUSED);
        Check.due("rows", Check.rows(x), "0:1 0:-9 0:-9");
    }

    private static void loaded() {
        Machine x = new Machine(5);
        for (int i = 0; i < 10; i++) {
            x.poke(i, 201 + i);
        }
        Check.writePart(x, 4, 0, 10);
        x.answer(4);
        Check.due("the first 3", x.load(100, 3), 10);
        Check.due("bytes", x.peek(100) + x.peek(101) + x.peek(102), 201 + 202 + 203);
        Check.due("no more", x.peek(103), 0);
        Check.due("none ahead", x.peek(99), 0);
        x.answer(4);
        Check.due("to the end of the memory", x.load(1990, 10), 10);
        Check.due("the last byte", x.peek(1999), 210);
        x.answer(4);
        Check.due("no bytes", x.load(2000, 0), 10);
        x.answer(4);
        Check.due("over the bit", x.load(17, 1), 10);
        Check.due("the bit is 1", x.transcript(false), 1);
        Check.due("the part stays", x.fileOf(4, 1), 10);
        Check.due("rows", Check.rows(x), "0:4 0:4 0:4 0:4 0:4");
    }

    private static void loadFaults() {
        Machine x = new Machine(5);
        Check.writePart(x, 1, 0, 5);
        Check.writeText(x, 2, "t");
        int[][] runs = {
            {-9, 0, 1, Check.REFUSED}, {-9, -1, -1, Check.REFUSED},
            {2, 0, 1, Check.KIND}, {2, -1, -1, Check.KIND},
            {3, 0, 1, Check.MISSING}, {3, -1, -1, Check.MISSING},
            {1, 0, -1, Check.SIZE}, {1, -1, -1, Check.SIZE}, {1, 0, Check.LEAST, Check.SIZE},
            {1, 0, 6, Check.SHORT}, {1, -1, 6, Check.SHORT}, {1, 0, Check.MOST, Check.SHORT},
            {1, -1, 5, Check.MEMORY}, {1, 1996, 5, Check.MEMORY}, {1, 2001, 0, Check.MEMORY},
            {1, -1, 0, Check.MEMORY}, {1, Check.MOST, 5, Check.MEMORY}, {1, Check.LEAST, 5, Check.MEMORY},
            {1, 1995, 5, 5}};
        for (int[] run : runs) {
            x.answer(run[0]);
            int rows = x.told(10);
            Check.due("load " + run[0] + " " + run[1] + " " + run[2], x.load(run[1], run[2]), run[3]);
            Check.due("the answer is gone", x.told(5), 0);
            Check.due("one row", x.told(10), rows + 1);
            Check.due("its number", x.order(rows, 1), run[0]);
        }
        Check.due("no answer", x.load(0, 0), Check.REFUSED);
    }
}
