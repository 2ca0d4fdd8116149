import java.util.Map;

/** The edges that part 5 and promises 23 and 24 name, a test of its own for each sentence. */
public final class EdgesOfOrderTest {
    private static final String PART = "part 5", ORDER = "promise 23", TOLD = "promise 24";

    public static void main(String[] args) {
        firstTwoHundred();
        twoHundredAndOneOfOneCall();
        actsBehindTwoHundred();
        namesAsked();
        filesMade();
        filesNotMade();
        commandsMadeWhateverItWas();
        tablesClosed();
        filesEnded();
        filesNotEnded();
        bleeps();
        soundsBegun();
        soundsStopped();
        routinesCalled();
        rowsUnknown();
        rowsOutside();
        told();
        Check.end();
    }

    private static void told() {
        toldScreen();
        toldTranscript();
        toldTables();
        toldCommands();
        toldLost();
        toldAnswers();
        toldTyped();
        toldSource();
        toldTranscriptFile();
        toldCommandsFile();
        toldRows();
        toldVersion();
        toldOutside();
    }

    private static Machine withRows(int rows) {
        Machine x = new Machine(5);
        for (int i = 0; i < rows; i++) {
            x.sound(1 + i % 2, 1, 0, 0);
        }
        return x;
    }

    // ---- part 5

    private static void firstTwoHundred() {
        Check.sentence(PART, "THE ORDER has rows of a kind and a number, the first 200 that came");
        Machine x = withRows(199);
        Check.due("rows", x.told(10), 199);
        Check.due("row 199", x.order(199, 0), Check.UNKNOWN);
        x.sound(7, 2, 1, 0);
        Check.due("rows", x.told(10), 200);
        Check.due("row 199", x.order(199, 0) * 10 + x.order(199, 1), 57);
        Map<String, Object> before = x.sight();
        x.sound(1, 1, 0, 0);
        Check.due("one more changed", x.changed(before), "");
        Check.due("rows", x.told(10), 200);
        Check.due("row 0", x.order(0, 0) * 10 + x.order(0, 1), 41);
        Check.due("row 200", x.order(200, 0), Check.UNKNOWN);
    }

    private static void twoHundredAndOneOfOneCall() {
        Check.sentence(PART, "the first 200 that came");
        Machine x = withRows(198);
        x.sound(7, 2, 1, 900);
        x.ended();
        Check.due("rows", x.told(10), 200);
        Check.due("the last is the end", x.order(199, 0) * 10 + x.order(199, 1), 67);
        Machine y = withRows(199);
        y.answer(4);
        y.choose(4, true, 0);
        Check.due("rows", y.told(10), 200);
        Check.due("the last is the name", y.order(199, 0) * 10 + y.order(199, 1), 4);
    }

    private static void actsBehindTwoHundred() {
        Check.sentence(PART, "rows of a kind and a number, the first 200 that came:");
        Machine x = withRows(200);
        x.answer(4);
        Check.due("commands on", x.choose(4, true, 0), 1);
        Check.due("a table", x.choose(3, true, 100), 1);
        x.sign(65);
        Check.due("closes", x.choose(3, false, 0), 1);
        Check.due("its count", x.peek(101), 1);
        x.answer(4);
        Check.due("a source", x.source(true), 1);
        Check.due("it is ended", x.line(1), Check.STATE);
        Check.due("the keyboard", x.told(7), Check.NONE);
        Check.due("a sound", x.sound(3, 2, 1, 5), 1);
        Check.due("its routine is called", x.ended(), 1);
        Check.due("rows", x.told(10), 200);
    }

    private static void namesAsked() {
        Check.sentence(PART, "0 a name was ASKED for (the file; NONE)");
        Machine x = new Machine(5);
        x.save(0, 0);
        x.answer(-9);
        x.save(0, 0);
        x.answer(0);
        x.save(0, 0);
        x.answer(5);
        x.load(0, 0);
        x.answer(0);
        x.source(true);
        x.answer(0);
        x.choose(2, true, 0);
        Check.due("rows", Check.rows(x), "0:-9 0:-9 0:0 0:5 0:0 0:0");
        Machine y = new Machine(5);
        y.answer(0);
        y.answer(0);
        y.choose(1, true, 0);
        y.choose(2, false, 0);
        y.choose(4, false, 0);
        y.choose(3, true, 0);
        y.sign(65);
        y.source(false);
        y.type(65);
        y.line(1);
        y.drop(0);
        y.transcript(true);
        Check.due("acts that ask for none", y.told(10), 0);
    }

    private static void filesMade() {
        Check.sentence(PART, "1 a file was made by a stream");
        Machine x = new Machine(5);
        x.answer(3);
        x.choose(2, true, 0);
        Check.due("by a transcript that is chosen on", Check.rows(x), "0:3 1:3");
        Machine y = new Machine(5);
        y.transcript(true);
        y.answer(0);
        y.sign(65);
        Check.due("by a sign that comes to it", Check.rows(y), "0:0 1:0");
        Machine z = new Machine(5);
        z.answer(5);
        z.choose(4, true, 0);
        Check.due("by commands", Check.rows(z), "0:5 1:5");
    }

    private static void filesNotMade() {
        Check.sentence(PART, "a file was made by a stream");
        Machine x = new Machine(5);
        Check.writePart(x, 1, 0, 3);
        Check.due("by save, which is no stream", Check.rows(x), "0:1");
        Machine y = new Machine(5);
        Check.writeEmptyText(y, 1);
        y.answer(1);
        y.choose(2, true, 0);
        Check.due("a TEXT without signs is there", Check.rows(y), "0:1 1:1 0:1");
    }

    private static void commandsMadeWhateverItWas() {
        Check.sentence(PART, "that of COMMANDS whatever it was before (its number)");
        Machine x = new Machine(5);
        Check.writePart(x, 1, 0, 3);
        x.answer(1);
        x.choose(4, true, 0);
        x.answer(1);
        x.choose(4, true, 0);
        Check.type(x, "a/");
        x.line(9);
        x.answer(1);
        x.choose(4, true, 0);
        Check.due("a PART, an empty TEXT, a TEXT", Check.rows(x), "0:1 0:1 1:1 0:1 1:1 0:1 1:1");
    }

    private static void tablesClosed() {
        Check.sentence(PART, "2 a TABLE closed (COUNT)");
        Machine x = new Machine(5);
        x.choose(3, false, 0);
        x.choose(3, true, 100);
        x.choose(3, true, 500);
        for (int i = 0; i < 256; i++) {
            x.sign(65);
        }
        Check.due("none yet", x.told(10), 0);
        x.choose(3, false, 0);
        x.choose(3, false, 0);
        x.choose(3, false, 0);
        Check.due("256, then 0, then none", Check.rows(x), "2:256 2:0");
    }

    private static void filesEnded() {
        Check.sentence(PART, "3 a file was ENDED (its number)");
        for (int name = 0; name <= 5; name += 5) {
            Machine x = new Machine(5);
            Check.writeEmptyText(x, name);
            x.answer(name);
            x.source(true);
            Check.due("not by being the source", x.told(10), 3);
            x.line(1);
            x.line(1);
            Check.due("once", Check.rows(x), "0:" + name + " 1:" + name + " 0:" + name + " 3:" + name);
        }
    }

    private static void filesNotEnded() {
        Check.sentence(PART, "a file was ENDED");
        Machine x = new Machine(5);
        Check.writeText(x, 1, "a");
        Check.writeText(x, 2, "b");
        x.answer(1);
        x.source(true);
        x.line(40);
        x.answer(2);
        x.source(true);
        x.line(40);
        x.source(false);
        x.line(40);
        x.line(41);
        Check.due("by another source, or the keyboard", Check.rows(x), "0:1 1:1 0:2 1:2 0:1 0:2");
    }

    private static void bleeps() {
        Check.sentence(PART, "4 a BLEEP (its number)");
        Machine x = new Machine(1);
        x.sound(2, 4, 0, 0);
        x.sound(1, 2, 255, 0);
        x.sound(1, 3, 0, 0);
        Check.due("rows", Check.rows(x), "4:2 4:1 4:1");
    }

    private static void soundsBegun() {
        Check.sentence(PART, "5 a sound began (its number)");
        Machine x = new Machine(1);
        x.sound(3, 1, 0, 0);
        Check.due("not as it is made ready", x.told(10), 0);
        x.sound(3, 2, 0, 0);
        x.sound(9, 2, 0, 0);
        Check.due("rows", Check.rows(x), "5:3 6:3 5:9");
    }

    private static void soundsStopped() {
        Check.sentence(PART, "6 it was stopped or ended (its number)");
        Machine x = new Machine(1);
        x.sound(3, 2, 1, 0);
        x.ended();
        x.sound(4, 2, 5, 0);
        x.sound(4, 3, 0, 0);
        x.sound(5, 2, 5, 0);
        x.sound(5, 4, 0, 0);
        x.sound(6, 2, 5, 0);
        x.sound(7, 2, 5, 0);
        Check.due("rows", Check.rows(x), "5:3 6:3 5:4 6:4 5:5 6:5 5:6 6:6 5:7");
        x.sound(6, 3, 0, 0);
        x.sound(6, 4, 0, 0);
        x.ended();
        Check.due("no row more", x.told(10), 9);
    }

    private static void routinesCalled() {
        Check.sentence(PART, "7 a ROUTINE was called (it)");
        Machine x = new Machine(8);
        x.sound(3, 2, 2, 65535);
        x.ended();
        Check.due("not by a turn that is not the last", Check.rows(x), "5:3");
        x.ended();
        Check.due("behind the end", Check.rows(x), "5:3 6:3 7:65535");
    }

    // ---- promise 23

    private static void rowsUnknown() {
        Check.sentence(ORDER, "Row i of THE ORDER: what = 0 its kind, 1 its number. UNKNOWN");
        Machine x = new Machine(5);
        Check.due("row 0 of none", x.order(0, 0), Check.UNKNOWN);
        x.sound(2, 1, 0, 0);
        Check.due("its kind", x.order(0, 0), 4);
        Check.due("its number", x.order(0, 1), 2);
        for (int i : new int[] {Check.LEAST, -1, 1, 199, 200, Check.MOST}) {
            Check.due("row " + i, x.order(i, 0), Check.UNKNOWN);
            Check.due("row " + i + ", what 2", x.order(i, 2), Check.UNKNOWN);
        }
    }

    private static void rowsOutside() {
        Check.sentence(ORDER, "UNKNOWN; OUTSIDE.");
        Machine x = withRows(200);
        for (int what : new int[] {Check.LEAST, -1, 2, 3, Check.MOST}) {
            Check.due("what " + what, x.order(0, what), Check.OUTSIDE);
            Check.due("what " + what + " of row 199", x.order(199, what), Check.OUTSIDE);
            Check.due("what " + what + " of row 200", x.order(200, what), Check.UNKNOWN);
        }
    }

    // ---- promise 24

    private static void toldScreen() {
        Check.sentence(TOLD, "0 how many signs came to SCREEN");
        Machine x = new Machine(5);
        for (int i = 0; i < 101; i++) {
            x.sign(65);
        }
        Check.due("more than it shows", x.told(0), 101);
        x.choose(1, false, 0);
        x.sign(65);
        Check.due("while it is off", x.told(0), 101);
        x.choose(1, true, 0);
        Check.type(x, "ab/");
        x.line(9);
        Check.due("a line's echo", x.told(0), 104);
        x.choose(3, true, 0);
        x.sign(65);
        x.sign(1);
        Check.due("a table's sign, and none", x.told(0), 104);
    }

    private static void toldTranscript() {
        Check.sentence(TOLD, "1 to TRANSCRIPT");
        Machine x = Scenes.fullTranscript(0);
        Check.due("400", x.told(1), 400);
        x.sign(65);
        Check.due("lost ones did not come", x.told(1), 400);
        x.answer(0);
        x.choose(4, true, 0);
        x.sign(65);
        Check.due("room again", x.told(1), 401);
    }

    private static void toldTables() {
        Check.sentence(TOLD, "2 into TABLES");
        Machine x = new Machine(5);
        x.choose(3, true, 1996);
        Check.sign(x, "abc");
        Check.due("two, the third has no byte", x.told(2), 2);
        x.choose(3, true, 100);
        x.sign(65);
        x.choose(3, false, 0);
        x.choose(3, false, 0);
        Check.due("of all that ever were open", x.told(2), 3);
    }

    private static void toldCommands() {
        Check.sentence(TOLD, "3 to COMMANDS");
        Machine x = new Machine(5);
        x.answer(0);
        x.choose(4, true, 0);
        Check.type(x, "ab/c/");
        x.line(9);
        Check.due("a line and its end", x.told(3), 3);
        x.choose(4, false, 0);
        x.line(9);
        Check.due("while they are off", x.told(3), 3);
        x.sign(65);
        Check.due("a sign that was not typed", x.told(3), 3);
    }

    private static void toldLost() {
        Check.sentence(TOLD, "4 were LOST");
        Machine x = new Machine(5);
        x.answer(0);
        x.choose(2, true, 0);
        x.answer(1);
        x.choose(4, true, 0);
        x.drop(0);
        x.sign(65);
        Check.due("to the transcript", x.told(4), 1);
        x.drop(1);
        x.choose(2, false, 0);
        Check.type(x, "a/b/");
        x.line(9);
        Check.due("to commands, too", x.told(4), 3);
        x.choose(2, true, 0);
        x.line(9);
        Check.due("to both", x.told(4), 7);
        x.choose(1, false, 0);
        x.choose(2, false, 0);
        x.sign(65);
        Check.due("none, where none is on", x.told(4), 7);
    }

    private static void toldAnswers() {
        Check.sentence(TOLD, "5 ANSWERS that wait");
        Machine x = new Machine(5);
        Check.due("none", x.told(5), 0);
        for (int i = 0; i < 9; i++) {
            x.answer(-9);
        }
        Check.due("8", x.told(5), 8);
        for (int i = 0; i < 9; i++) {
            x.save(0, 0);
        }
        Check.due("none again", x.told(5), 0);
    }

    private static void toldTyped() {
        Check.sentence(TOLD, "6 typed signs that wait");
        Machine x = new Machine(5);
        Check.due("none", x.told(6), 0);
        for (int i = 0; i < 61; i++) {
            x.type(65);
        }
        Check.due("60", x.told(6), 60);
        x.line(40);
        Check.due("20", x.told(6), 20);
        x.line(20);
        Check.due("none again", x.told(6), 0);
    }

    private static void toldSource() {
        Check.sentence(TOLD, "7 THE SOURCE (its file; NONE: the keyboard)");
        Machine x = new Machine(5);
        Check.due("at first", x.told(7), Check.NONE);
        Check.writeText(x, 0, "a");
        x.answer(0);
        x.source(true);
        Check.due("file 0", x.told(7), 0);
        x.line(40);
        x.line(40);
        Check.due("ended", x.told(7), Check.NONE);
        x.answer(0);
        x.source(true);
        x.source(false);
        Check.due("the keyboard", x.told(7), Check.NONE);
    }

    private static void toldTranscriptFile() {
        Check.sentence(TOLD, "8 TRANSCRIPT's file (NONE)");
        Machine x = new Machine(5);
        x.transcript(true);
        Check.due("on by the bit alone", x.told(8), Check.NONE);
        x.sign(65);
        Check.due("it got none", x.told(8), Check.NONE);
        x.answer(0);
        x.sign(65);
        Check.due("file 0", x.told(8), 0);
        x.choose(2, false, 0);
        Check.due("off", x.told(8), 0);
    }

    private static void toldCommandsFile() {
        Check.sentence(TOLD, "9 COMMANDS' file (NONE: it is off)");
        Machine x = new Machine(5);
        Check.due("at first", x.told(9), Check.NONE);
        x.answer(0);
        x.choose(4, true, 0);
        Check.due("file 0", x.told(9), 0);
        x.drop(0);
        Check.due("dropped", x.told(9), 0);
        x.choose(4, false, 0);
        Check.due("off", x.told(9), Check.NONE);
    }

    private static void toldRows() {
        Check.sentence(TOLD, "10 rows of THE ORDER");
        for (int rows : new int[] {0, 1, 199, 200, 201, 300}) {
            Check.due("rows of " + rows, withRows(rows).told(10), Math.min(200, rows));
        }
    }

    private static void toldVersion() {
        Check.sentence(TOLD, "11 the version");
        for (int version = -1; version <= 10; version++) {
            Check.due("version " + version, new Machine(version).told(11), Math.max(1, Math.min(8, version)));
        }
    }

    private static void toldOutside() {
        Check.sentence(TOLD, "11 the version. OUTSIDE.");
        Machine x = Scenes.busy();
        for (int what : new int[] {Check.LEAST, -9, -1, 12, 13, Check.MOST}) {
            Check.due("told " + what, x.told(what), Check.OUTSIDE);
        }
    }
}
