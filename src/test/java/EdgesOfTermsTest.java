import java.util.ArrayList;
import java.util.List;
import java.util.Map;
import java.util.function.ToIntFunction;

/** The edges that the document's Terms name, a test of its own for each sentence. */
public final class EdgesOfTermsTest {
    private static final String TERMS = "Terms";

    public static void main(String[] args) {
        the512thCall();
        unknownAheadOfOutside();
        outsideAheadOfState();
        outsideAheadOfRoom();
        refusalsChangeNothing();
        refusalsOfTheFullChangeNothing();
        refusalsOfTheIdleChangeNothing();
        refusedComesBehindRefusals();
        deep();
        memory();
        memoryOfNoBytes();
        missing();
        shorter();
        size();
        kind();
        firstFaultOfTables();
        firstFaultOfSave();
        firstFaultOfLoad();
        firstFaultOfSource();
        faultsThatAskForNothingChangeNothing();
        faultsBehindANameTakeItAlone();
        none();
        Check.end();
    }

    private static void the512thCall() {
        Check.sentence("What it is", "An object is used for at most 512 calls after it has been made");
        Machine x = new Machine(5);
        for (int i = 0; i < 510; i++) {
            x.sign(33 + i % 90);
        }
        Check.due("sign as call 511", x.sign(65), 1);
        Check.due("told(0) as call 512", x.told(0), 511);
        Machine y = new Machine(5);
        for (int i = 0; i < 511; i++) {
            y.poke(i, 1 + i % 255);
        }
        Check.due("poke as call 512", y.poke(510, 0), 1);
        Machine z = new Machine(5);
        z.answer(0);
        z.choose(2, true, 0);
        for (int i = 0; i < 509; i++) {
            z.sign(65);
        }
        Check.due("lost signs as call 512", z.told(4), 109);
    }

    private static void unknownAheadOfOutside() {
        Check.sentence(TERMS, "REFUSALS, of several the first one here: UNKNOWN");
        Machine x = new Machine(5);
        Check.due("table(0, 2), none is open", x.table(0, 2), Check.UNKNOWN);
        Check.due("poke(2000, 256)", x.poke(2000, 256), Check.UNKNOWN);
        Check.due("poke(-1, -1)", x.poke(-1, -1), Check.UNKNOWN);
        Check.due("fileOf(6, 2)", x.fileOf(6, 2), Check.UNKNOWN);
        Check.due("sound(0, 0, 0, 0)", x.sound(0, 0, 0, 0), Check.UNKNOWN);
        Check.due("sound(10, 1, 256, 0)", x.sound(10, 1, 256, 0), Check.UNKNOWN);
        Check.due("sound(10, 1, 0, 65536)", x.sound(10, 1, 0, 65536), Check.UNKNOWN);
        Check.due("order(0, 2), no rows", x.order(0, 2), Check.UNKNOWN);
    }

    private static void outsideAheadOfState() {
        Check.sentence(TERMS, "OUTSIDE (another number is out of its bounds), STATE (as told)");
        Machine x = new Machine(5);
        Check.due("line(0), nothing waits", x.line(0), Check.OUTSIDE);
        Check.due("line(41), nothing waits", x.line(41), Check.OUTSIDE);
        Check.due("line(40), nothing waits", x.line(40), Check.STATE);
    }

    private static void outsideAheadOfRoom() {
        Check.sentence(TERMS, "ROOM (no room)");
        Machine x = Scenes.full();
        Check.due("answer(6), 8 wait", x.answer(6), Check.OUTSIDE);
        Check.due("answer(-8), 8 wait", x.answer(-8), Check.OUTSIDE);
        Check.due("answer(5), 8 wait", x.answer(5), Check.ROOM);
        Check.due("type(31), 60 wait", x.type(31), Check.OUTSIDE);
        Check.due("type(127), 60 wait", x.type(127), Check.OUTSIDE);
        Check.due("type(126), 60 wait", x.type(126), Check.ROOM);
    }

    private static void refusalsChangeNothing() {
        Check.sentence(TERMS, "They change nothing.");
        Machine x = Scenes.busy();
        Map<String, Object> before = x.sight();
        for (Call call : wrongCalls()) {
            int answer = call.on(x);
            Check.due(call.text() + " is refused", answer == Check.UNKNOWN || answer == Check.OUTSIDE
                || answer == Check.ROOM, true);
            Check.due(call.text() + " changed", x.changed(before), "");
        }
    }

    private static List<Call> wrongCalls() {
        List<Call> all = new ArrayList<>();
        for (int stream : new int[] {Check.LEAST, -1, 0, 5, Check.MOST}) {
            add(all, "choose on " + stream, x -> x.choose(stream, true, 300));
            add(all, "choose off " + stream, x -> x.choose(stream, false, 300));
        }
        for (int c : new int[] {12, 14, 31, 127}) {
            add(all, "sign " + c, x -> x.sign(c));
            add(all, "type " + c, x -> x.type(c));
        }
        for (int at : new int[] {Check.LEAST, -1, 2000, Check.MOST}) {
            add(all, "peek " + at, x -> x.peek(at));
            add(all, "poke " + at, x -> x.poke(at, 9));
        }
        for (int v : new int[] {Check.LEAST, -1, 256, Check.MOST}) {
            add(all, "poke of " + v, x -> x.poke(17, v));
        }
        for (int name : new int[] {Check.LEAST, -1, 6, Check.MOST}) {
            add(all, "answer " + name, x -> x.answer(name));
            add(all, "fileOf " + name, x -> x.fileOf(name, 0));
            add(all, "byteOf " + name, x -> x.byteOf(name, 0));
            add(all, "drop " + name, x -> x.drop(name));
        }
        for (int most : new int[] {Check.LEAST, -1, 0, 41, Check.MOST}) {
            add(all, "line " + most, x -> x.line(most));
        }
        add(all, "save of 401", x -> x.save(0, 401));
        add(all, "table 2", x -> x.table(2, 0));
        add(all, "table's what 2", x -> x.table(0, 2));
        add(all, "fileOf's what 2", x -> x.fileOf(0, 2));
        add(all, "sound 0", x -> x.sound(0, 2, 1, 1));
        add(all, "sound 10", x -> x.sound(10, 2, 1, 1));
        add(all, "effect 0", x -> x.sound(5, 0, 1, 1));
        add(all, "effect 5", x -> x.sound(5, 5, 1, 1));
        add(all, "turns 256", x -> x.sound(4, 2, 256, 1));
        add(all, "routine 65536", x -> x.sound(4, 2, 1, 65536));
        add(all, "stop with turns -1", x -> x.sound(5, 3, -1, 0));
        add(all, "release with routine -1", x -> x.sound(6, 4, 0, -1));
        add(all, "sounds 10", x -> x.sounds(10));
        add(all, "order 200", x -> x.order(200, 0));
        add(all, "order's what 2", x -> x.order(0, 2));
        add(all, "told 12", x -> x.told(12));
        return all;
    }

    private static void add(List<Call> all, String text, ToIntFunction<Streams> act) {
        all.add(new Call(text, act));
    }

    private static void refusalsOfTheFullChangeNothing() {
        Check.sentence(TERMS, "ROOM (no room). They change nothing.");
        Machine x = Scenes.full();
        Map<String, Object> before = x.sight();
        Check.due("a ninth answer", x.answer(0), Check.ROOM);
        Check.due("a 61st sign", x.type(13), Check.ROOM);
        Check.due("401 bytes", x.save(0, 401), Check.ROOM);
        Check.due("they changed", x.changed(before), "");
    }

    private static void refusalsOfTheIdleChangeNothing() {
        Check.sentence(TERMS, "STATE (as told), ROOM (no room). They change nothing.");
        Machine x = Scenes.busy();
        x.source(false);
        x.sound(5, 3, 0, 0);
        x.line(40);
        Map<String, Object> before = x.sight();
        Check.due("z alone waits", x.line(2), Check.STATE);
        Check.due("none plays", x.ended(), Check.STATE);
        Check.due("they changed", x.changed(before), "");
    }

    private static void refusedComesBehindRefusals() {
        Check.sentence(TERMS, "Then REFUSED (part 1).");
        Machine x = new Machine(2);
        Check.due("stream 4 of version 2 without an answer", x.choose(4, true, 0), Check.UNKNOWN);
        Check.due("401 bytes without an answer", x.save(0, 401), Check.ROOM);
        Check.due("nothing was asked for", x.told(10), 0);
        Check.due("400 bytes without an answer", x.save(0, 400), Check.REFUSED);
    }

    private static void deep() {
        Check.sentence(TERMS, "FAULTS are -10 less 1 DEEP");
        Machine x = new Machine(4);
        x.choose(3, true, 0);
        Check.due("a second table in version 4", x.choose(3, true, 0), -11);
    }

    private static void memory() {
        Check.sentence(TERMS, "2 MEMORY (a byte of the memory that there is not");
        Machine x = new Machine(5);
        x.poke(1999, 9);
        x.answer(0);
        Check.due("save the last byte", x.save(1999, 1), 1);
        Check.due("save one behind it", x.save(2000, 1), -12);
        Check.due("save one more than there are", x.save(1999, 2), -12);
        Check.due("save one ahead of all", x.save(-1, 1), -12);
        Check.due("save one ahead of all, and more", x.save(-1, 2), -12);
        Check.due("save at the greatest number", x.save(Check.MOST, 1), -12);
        Check.due("save 400 at the greatest number", x.save(Check.MOST, 400), -12);
        Check.due("save at the least number", x.save(Check.LEAST, 1), -12);
        x.answer(0);
        Check.due("load into the last byte", x.load(1999, 1), 1);
        for (int at : new int[] {Check.LEAST, -1, 2000, Check.MOST}) {
            x.answer(0);
            Check.due("load at " + at, x.load(at, 1), -12);
        }
        Check.due("a table at 1999", x.choose(3, true, 1999), -12);
        x.choose(3, true, 1998);
        Check.due("a sign behind the memory", x.sign(65), -12);
    }

    private static void memoryOfNoBytes() {
        Check.sentence(TERMS, "of 0 bytes: a place that is not 0 to 2000)");
        for (int at : new int[] {0, 1, 1999, 2000}) {
            Machine x = new Machine(5);
            x.answer(1);
            Check.due("save 0 bytes from " + at, x.save(at, 0), 1);
            x.answer(1);
            Check.due("load 0 bytes at " + at, x.load(at, 0), 0);
        }
        for (int at : new int[] {Check.LEAST, -1, 2001, Check.MOST}) {
            Machine x = new Machine(5);
            x.answer(1);
            Check.due("save 0 bytes from " + at, x.save(at, 0), -12);
            x.save(0, 0);
            x.answer(1);
            Check.due("load 0 bytes at " + at, x.load(at, 0), -12);
        }
    }

    private static void missing() {
        Check.sentence(TERMS, "3 MISSING (a file that is not there)");
        Machine x = new Machine(5);
        x.answer(0);
        Check.due("load from none", x.load(0, 0), -13);
        x.answer(5);
        Check.due("read from none", x.source(true), -13);
        Check.writePart(x, 0, 0, 1);
        x.drop(0);
        x.answer(0);
        Check.due("load from one that was dropped", x.load(0, 0), -13);
    }

    private static void shorter() {
        Check.sentence(TERMS, "4 SHORT (a file has not so many bytes)");
        int[] lengths = {0, 1, 399, 400};
        for (int length : lengths) {
            Machine x = new Machine(5);
            Check.writePart(x, 2, 0, length);
            x.answer(2);
            Check.due("all " + length, x.load(0, length), length);
            x.answer(2);
            Check.due("one more than " + length, x.load(0, length + 1), -14);
            x.answer(2);
            Check.due("far more than " + length, x.load(0, Check.MOST), -14);
        }
    }

    private static void size() {
        Check.sentence(TERMS, "5 SIZE (a row of less than 0 bytes)");
        for (int n : new int[] {-1, -400, -2000, Check.LEAST}) {
            Machine x = new Machine(5);
            x.answer(0);
            Check.due("save " + n, x.save(100, n), -15);
            Check.due("save none", x.save(100, 0), 1);
            x.answer(0);
            Check.due("load " + n, x.load(100, n), -15);
        }
    }

    private static void kind() {
        Check.sentence(TERMS, "6 KIND (a file is of the other kind)");
        Machine x = new Machine(5);
        Check.writePart(x, 0, 0, 0);
        Check.writeEmptyText(x, 1);
        x.answer(0);
        Check.due("transcript into a PART", x.choose(2, true, 0), -16);
        x.answer(0);
        Check.due("lines from a PART", x.source(true), -16);
        x.answer(1);
        Check.due("load from a TEXT", x.load(0, 0), -16);
    }

    private static void firstFaultOfTables() {
        Check.sentence(TERMS, "of several the first one as told");
        Machine x = Scenes.full();
        Check.due("deep, and no memory", x.choose(3, true, 1999), Check.DEEP);
        x.choose(3, false, 0);
        Check.due("no memory", x.choose(3, true, 1999), Check.MEMORY);
    }

    private static void firstFaultOfSave() {
        Check.sentence("promise 14", "SIZE; MEMORY; then the name is ASKED for (REFUSED).");
        Machine x = new Machine(5);
        Check.due("size, no memory, no name", x.save(2001, -1), Check.SIZE);
        Check.due("no memory, no name", x.save(2001, 0), Check.MEMORY);
        Check.due("nothing was asked for", x.told(10), 0);
        Check.due("no name", x.save(2000, 0), Check.REFUSED);
        Check.due("then it was", Check.rows(x), "0:-9");
    }

    private static void firstFaultOfLoad() {
        Check.sentence("promise 15", "KIND; MISSING; SIZE; SHORT; MEMORY.");
        Machine x = new Machine(5);
        Check.writeEmptyText(x, 0);
        Check.writePart(x, 1, 0, 3);
        Check.due("refused, size, memory", x.load(-1, -1), Check.REFUSED);
        x.answer(0);
        Check.due("kind, size, memory", x.load(-1, -1), Check.KIND);
        x.answer(0);
        Check.due("kind, short, memory", x.load(-1, 4), Check.KIND);
        x.answer(2);
        Check.due("missing, size, memory", x.load(-1, -1), Check.MISSING);
        x.answer(2);
        Check.due("missing, short, memory", x.load(-1, 4), Check.MISSING);
        x.answer(1);
        Check.due("size, memory", x.load(-1, -1), Check.SIZE);
        x.answer(1);
        Check.due("short, memory", x.load(-1, 4), Check.SHORT);
        x.answer(1);
        Check.due("memory", x.load(-1, 3), Check.MEMORY);
    }

    private static void firstFaultOfSource() {
        Check.sentence("promise 17", "(REFUSED; MISSING; KIND: it is no TEXT)");
        Machine x = new Machine(5);
        Check.due("no answer", x.source(true), Check.REFUSED);
        x.answer(-9);
        Check.due("NONE", x.source(true), Check.REFUSED);
        x.answer(4);
        Check.due("not there", x.source(true), Check.MISSING);
        Check.writePart(x, 4, 0, 5);
        x.answer(4);
        Check.due("a PART", x.source(true), Check.KIND);
        Check.writeEmptyText(x, 4);
        x.answer(4);
        Check.due("a TEXT", x.source(true), 1);
    }

    private static void faultsThatAskForNothingChangeNothing() {
        Check.sentence(TERMS, "they change nothing else but as told");
        Machine x = Scenes.full();
        Map<String, Object> before = x.sight();
        Check.due("deep", x.choose(3, true, 1), Check.DEEP);
        Check.due("save of -1", x.save(0, -1), Check.SIZE);
        Check.due("save behind the memory", x.save(2000, 1), Check.MEMORY);
        Check.due("they changed", x.changed(before), "");
        x.choose(3, false, 0);
        x.choose(3, true, 1998);
        before = x.sight();
        Check.due("a sign behind the memory", x.sign(65), Check.MEMORY);
        Check.due("it changed", x.changed(before), "");
        x.choose(3, false, 0);
        before = x.sight();
        Check.due("a table behind the memory", x.choose(3, true, 1999), Check.MEMORY);
        Check.due("it changed", x.changed(before), "");
    }

    private static void faultsBehindANameTakeItAlone() {
        Check.sentence(TERMS, "of several the first one as told; they change nothing else but as told");
        takesItsNameAlone(3, Check.KIND, new Call("load from a TEXT", x -> x.load(0, 1)));
        takesItsNameAlone(5, Check.MISSING, new Call("load from none", x -> x.load(0, 1)));
        takesItsNameAlone(1, Check.SIZE, new Call("load of -1", x -> x.load(0, -1)));
        takesItsNameAlone(1, Check.SHORT, new Call("load of too many", x -> x.load(0, 11)));
        takesItsNameAlone(1, Check.MEMORY, new Call("load behind the memory", x -> x.load(1991, 10)));
        takesItsNameAlone(5, Check.MISSING, new Call("lines from none", x -> x.source(true)));
        takesItsNameAlone(1, Check.KIND, new Call("lines from a PART", x -> x.source(true)));
        Machine x = new Machine(5);
        Check.writePart(x, 1, 0, 10);
        x.answer(1);
        Map<String, Object> before = x.sight();
        Check.due("transcript into a PART", x.choose(2, true, 0), Check.KIND);
        Check.due("it changed", x.changed(before), "answers, order 1 0, order 1 1, told 10, told 5");
    }

    private static void takesItsNameAlone(int name, int fault, Call call) {
        Machine x = Scenes.busy();
        for (int i = 0; i < 3; i++) {
            x.save(0, 0);
        }
        Check.writePart(x, 1, 0, 10);
        x.answer(name);
        int row = x.told(10);
        Map<String, Object> before = x.sight();
        Check.due(call.text(), call.on(x), fault);
        Check.due(call.text() + " changed", x.changed(before),
            "answers, order " + row + " 0, order " + row + " 1, told 10, told 5");
        Check.due("its row", x.order(row, 0) * 10 + x.order(row, 1), name);
    }

    private static void none() {
        Check.sentence(TERMS, "NONE is -9.");
        Machine x = new Machine(5);
        Check.due("the constant", ZStreams.NONE, -9);
        Check.due("no sign", x.shown(0), -9);
        Check.due("no file", x.fileOf(0, 0), -9);
        Check.due("no line", x.lineAt(0), -9);
        Check.due("no sound", x.sounds(0), -9);
        Check.due("the keyboard", x.told(7), -9);
        Check.due("no transcript", x.told(8), -9);
        Check.due("no commands", x.told(9), -9);
        Check.due("an answer", x.answer(-9), 1);
    }
}
