/** Promises 16 to 19: type, source, line, lineAt. */
public final class LinesTest {
    public static void main(String[] args) {
        typed();
        sourceChosen();
        linesFromKeyboard();
        linesAtTheirMost();
        linesRefused();
        linesFromFile();
        filesThatEnd();
        sourceThatChanges();
        echo();
        echoToTranscriptWithoutFile();
        echoThatIsLost();
        lineAsked();
        Check.end();
    }

    private static void typed() {
        Machine x = new Machine(1);
        for (int c : new int[] {Check.LEAST, -1, 0, 12, 14, 31, 127, Check.MOST}) {
            Check.due("type " + c, x.type(c), Check.OUTSIDE);
        }
        for (int i = 0; i < 60; i++) {
            Check.due("type " + i, x.type(i % 3 == 0 ? 13 : i % 3 == 1 ? 32 : 126), i + 1);
        }
        Check.due("60 wait", x.type(65), Check.ROOM);
        Check.due("outside ahead of room", x.type(1), Check.OUTSIDE);
        Check.due("told", x.told(6), 60);
        Check.due("an empty line", x.line(40), 0);
        Check.due("one place", x.type(65), 60);
        Check.due("typing shows one line's end alone", Check.screen(x), "/");
    }

    private static void sourceChosen() {
        Machine x = new Machine(5);
        Check.due("refused", x.source(true), Check.REFUSED);
        x.answer(-9);
        Check.due("refused by NONE", x.source(true), Check.REFUSED);
        x.answer(2);
        Check.due("missing", x.source(true), Check.MISSING);
        Check.writePart(x, 2, 0, 2);
        x.answer(2);
        Check.due("no text", x.source(true), Check.KIND);
        Check.due("the keyboard still", x.told(7), Check.NONE);
        Check.writeText(x, 3, "a/b");
        x.answer(3);
        Check.due("a file", x.source(true), 1);
        Check.due("told", x.told(7), 3);
        x.line(9);
        Check.due("refused again", x.source(true), Check.REFUSED);
        Check.due("it stays", x.told(7), 3);
        x.line(9);
        Check.due("where it was", Check.line(x), "b");
        x.answer(3);
        Check.due("the same one", x.source(true), 1);
        x.line(9);
        Check.due("from its beginning", Check.line(x), "a");
        Check.due("the keyboard", x.source(false), 1);
        Check.due("told", x.told(7), Check.NONE);
        Check.due("again", x.source(false), 1);
        Check.due("no file was ended", Check.rows(x), "0:-9 0:-9 0:2 0:2 0:2 0:3 1:3 0:3 0:-9 0:3");
    }

    private static void linesFromKeyboard() {
        Machine x = new Machine(3);
        Check.type(x, "go north/look//x");
        Check.due("first", x.line(40), 8);
        Check.due("its signs", Check.line(x), "go north");
        Check.due("second", x.line(40), 4);
        Check.due("its signs", Check.line(x), "look");
        Check.due("empty", x.line(40), 0);
        Check.due("no signs", Check.line(x), "");
        Check.due("one waits", x.told(6), 1);
        Check.due("of one sign", x.line(1), 1);
        Check.due("none waits", x.told(6), 0);
    }

    private static void linesAtTheirMost() {
        Machine x = new Machine(3);
        Check.type(x, "abcdef/g");
        Check.due("3", x.line(3), 3);
        Check.due("abc", Check.line(x), "abc");
        Check.due("echoed with its end", Check.screen(x), "abc/");
        Check.due("3 more", x.line(3), 3);
        Check.due("the end still waits", x.told(6), 2);
        Check.due("an empty line", x.line(3), 0);
        Check.due("g without an end", x.line(2), Check.STATE);
        Check.due("g alone", x.line(1), 1);
        for (int i = 0; i < 60; i++) {
            x.type(97 + i % 26);
        }
        Check.due("40 signs", x.line(40), 40);
        Check.due("20 wait", x.told(6), 20);
        Check.due("21 are too many", x.line(21), Check.STATE);
        Check.due("20 signs", x.line(20), 20);
        Check.due("the last one", x.lineAt(19), 97 + 59 % 26);
    }

    private static void linesRefused() {
        Machine x = new Machine(3);
        Check.due("none waits", x.line(1), Check.STATE);
        Check.type(x, "ab");
        for (int most : new int[] {Check.LEAST, -1, 0, 41, Check.MOST}) {
            Check.due("line " + most, x.line(most), Check.OUTSIDE);
        }
        Check.due("fewer", x.line(3), Check.STATE);
        Check.due("still there", x.told(6), 2);
        Check.due("as many", x.line(2), 2);
        Check.type(x, "cd");
        x.line(3);
        Check.due("the latest line stays", Check.line(x), "ab");
        Check.due("nothing echoed", Check.screen(x), "ab/");
        Check.due("no rows", x.told(10), 0);
    }

    private static void linesFromFile() {
        Machine x = new Machine(5);
        x.answer(1);
        x.choose(2, true, 0);
        Check.sign(x, "one//twothree/end");
        x.choose(2, false, 0);
        x.answer(1);
        x.source(true);
        Check.type(x, "k/");
        Check.due("one", x.line(40), 3);
        Check.due("its signs", Check.line(x), "one");
        Check.due("empty", x.line(40), 0);
        Check.due("at most 3", x.line(3), 3);
        Check.due("two", Check.line(x), "two");
        Check.due("at most 5", x.line(5), 5);
        Check.due("three", Check.line(x), "three");
        Check.due("the end that was left", x.line(5), 0);
        Check.due("up to the end of the file", x.line(5), 3);
        Check.due("end", Check.line(x), "end");
        Check.due("not ended yet", x.told(7), 1);
        Check.due("the typed ones wait", x.told(6), 2);
        Check.due("then the keyboard", x.line(5), 1);
        Check.due("k", Check.line(x), "k");
        Check.due("ended", x.told(7), Check.NONE);
        Check.due("rows", Check.rows(x), "0:1 1:1 0:1 3:1");
    }

    private static void filesThatEnd() {
        Machine x = new Machine(5);
        x.answer(0);
        x.choose(4, true, 0);
        x.answer(0);
        Check.due("an empty text", x.source(true), 1);
        Check.due("outside ahead of the end", x.line(0), Check.OUTSIDE);
        Check.due("not ended by that", x.told(7), 0);
        Check.due("nothing waits", x.line(1), Check.STATE);
        Check.due("ended all the same", x.told(7), Check.NONE);
        Check.due("the row", Check.rows(x), "0:0 1:0 0:0 3:0");
        Check.due("ended once", x.line(1), Check.STATE);
        Check.due("no row more", x.told(10), 4);
        Check.writeText(x, 2, "a/b");
        x.answer(2);
        x.source(true);
        x.line(9);
        x.drop(2);
        Check.due("dropped", x.line(9), Check.STATE);
        Check.due("its row", x.order(x.told(10) - 1, 0) * 10 + x.order(x.told(10) - 1, 1), 32);
        Check.writeText(x, 3, "a/b");
        x.answer(3);
        x.source(true);
        Check.writePart(x, 3, 0, 100);
        Check.type(x, "c/");
        Check.due("no text any more", x.line(9), 1);
        Check.due("c", Check.line(x), "c");
        int rows = x.told(10);
        Check.due("its rows", x.order(rows - 2, 0) * 10 + x.order(rows - 1, 0), 3);
    }

    private static void sourceThatChanges() {
        Machine x = new Machine(5);
        Check.writeText(x, 1, "ab");
        x.answer(1);
        x.source(true);
        x.answer(1);
        x.choose(2, true, 0);
        Check.due("its only line", x.line(9), 2);
        Check.due("is echoed behind itself", Check.text(x, 1), "ab/ab/");
        Check.due("and read again", x.line(1), 1);
        Check.due("echoed too", Check.text(x, 1), "ab/ab/a/");
        x.answer(1);
        x.choose(4, true, 0);
        Check.due("emptied", x.line(9), Check.STATE);
        Check.due("ended", x.told(7), Check.NONE);
    }

    private static void echo() {
        Machine x = new Machine(5);
        x.answer(0);
        x.choose(2, true, 0);
        x.answer(1);
        x.choose(4, true, 0);
        x.choose(3, true, 500);
        Check.type(x, "hi/yo/");
        Check.due("a line", x.line(9), 2);
        Check.due("screen", Check.screen(x), "hi/");
        Check.due("transcript", Check.text(x, 0), "hi/");
        Check.due("commands", Check.text(x, 1), "hi/");
        Check.due("not the table", x.table(0, 1), 0);
        Check.due("told screen", x.told(0), 3);
        Check.due("told transcript", x.told(1), 3);
        Check.due("told tables", x.told(2), 0);
        Check.due("told commands", x.told(3), 3);
        x.choose(1, false, 0);
        x.choose(2, false, 0);
        x.line(9);
        Check.due("screen is off", x.told(0), 3);
        Check.due("transcript is off", x.told(1), 3);
        Check.due("commands alone", Check.text(x, 1), "hi/yo/");
        x.choose(1, true, 0);
        x.answer(1);
        x.source(true);
        x.line(9);
        Check.due("a line from a file comes to screen", Check.screen(x), "hi/hi/");
        Check.due("but not to commands", x.told(3), 6);
        x.answer(0);
        x.choose(4, true, 0);
        x.choose(2, true, 0);
        x.source(false);
        Check.type(x, "ab/");
        x.line(9);
        Check.due("sign by sign, transcript first", Check.text(x, 0), "aabb//");
    }

    private static void echoToTranscriptWithoutFile() {
        Machine x = new Machine(5);
        x.transcript(true);
        x.answer(-9);
        x.answer(4);
        Check.type(x, "abc/");
        x.line(9);
        Check.due("from the second sign on", Check.text(x, 4), "bc/");
        Check.due("one is lost", x.told(4), 1);
        Check.due("rows", Check.rows(x), "0:-9 0:4 1:4");
    }

    private static void echoThatIsLost() {
        Machine x = new Machine(5);
        x.answer(0);
        x.choose(2, true, 0);
        x.answer(0);
        x.choose(4, true, 0);
        for (int i = 0; i < 399; i++) {
            x.sign(46);
        }
        Check.type(x, "a/");
        x.line(9);
        Check.due("one place", x.byteOf(0, 399), 97);
        Check.due("transcript had it", x.told(1), 400);
        Check.due("commands had none", x.told(3), 0);
        Check.due("each loss counts", x.told(4), 3);
        Check.due("screen", x.told(0), 401);
    }

    private static void lineAsked() {
        Machine x = new Machine(5);
        Check.due("no line yet", x.lineAt(0), Check.NONE);
        Check.type(x, "abc/d/");
        x.line(9);
        Check.due("0", x.lineAt(0), 97);
        Check.due("2", x.lineAt(2), 99);
        for (int i : new int[] {Check.LEAST, -1, 3, 39, 40, Check.MOST}) {
            Check.due("lineAt " + i, x.lineAt(i), Check.NONE);
        }
        x.line(9);
        Check.due("the latest one alone", x.lineAt(1), Check.NONE);
    }
}
