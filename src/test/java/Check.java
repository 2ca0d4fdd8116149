import java.util.ArrayList;
import java.util.List;

/** What the tests share: comparing answers, and some runs of calls that many of them need. */
final class Check {
    static final int UNKNOWN = -1, OUTSIDE = -2, STATE = -3, ROOM = -4, REFUSED = -5, NONE = -9;
    static final int DEEP = -11, MEMORY = -12, MISSING = -13, SHORT = -14, SIZE = -15, KIND = -16;
    static final int LEAST = Integer.MIN_VALUE, MOST = Integer.MAX_VALUE;

    private static int checks = 0;
    private static int wrong = 0;

    private Check() {
    }

    static void due(String what, Object got, Object want) {
        checks++;
        if (!got.equals(want)) {
            wrong++;
            System.out.println(what + " answered " + got + ", due is " + want);
        }
    }

    static void end() {
        System.out.println(checks + " answers, " + wrong + " not as due");
        if (wrong != 0 || checks == 0) {
            System.exit(1);
        }
    }

    /** The rows of the order, as "kind:number" behind one another. */
    static String rows(ZStreams x) {
        StringBuilder text = new StringBuilder();
        for (int i = 0; i < x.told(10); i++) {
            text.append(i == 0 ? "" : " ").append(x.order(i, 0)).append(':').append(x.order(i, 1));
        }
        return text.toString();
    }

    /** The bytes of a file as text, the end of a line as '/'. */
    static String text(ZStreams x, int name) {
        StringBuilder text = new StringBuilder();
        for (int i = 0; i < x.fileOf(name, 1); i++) {
            text.append((char) x.byteOf(name, i));
        }
        return text.toString().replace('\r', '/');
    }

    /** The latest line as text. */
    static String line(ZStreams x) {
        StringBuilder text = new StringBuilder();
        for (int i = 0; x.lineAt(i) != NONE; i++) {
            text.append((char) x.lineAt(i));
        }
        return text.toString();
    }

    /** The signs on the screen as text, the oldest first, the end of a line as '/'. */
    static String screen(ZStreams x) {
        StringBuilder text = new StringBuilder();
        for (int i = 0; x.shown(i) != NONE; i++) {
            text.append((char) x.shown(i));
        }
        return text.reverse().toString().replace('\r', '/');
    }

    /** Types the signs of a text, '/' as the end of a line. */
    static void type(ZStreams x, String text) {
        for (char c : text.toCharArray()) {
            x.type(c == '/' ? 13 : c);
        }
    }

    /** Sends the signs of a text, '/' as the end of a line. */
    static void sign(ZStreams x, String text) {
        for (char c : text.toCharArray()) {
            x.sign(c == '/' ? 13 : c);
        }
    }

    /** Makes a file a TEXT of these signs; its order rows are 0:name 1:name. */
    static void writeText(ZStreams x, int name, String text) {
        x.answer(name);
        x.choose(4, true, 0);
        for (String line : text.split("/")) {
            type(x, line + "/");
            x.line(40);
        }
        x.choose(4, false, 0);
    }

    /** Makes a file a PART of n bytes of the memory. */
    static void writePart(ZStreams x, int name, int from, int n) {
        x.answer(name);
        x.save(from, n);
    }

    /** Everything that the calls that only look can tell. */
    static List<Integer> state(ZStreams x) {
        List<Integer> all = new ArrayList<>();
        for (int i = 0; i <= 11; i++) {
            all.add(x.told(i));
        }
        for (int i = 0; i <= 9; i++) {
            all.add(x.sounds(i));
        }
        for (int i = 0; i < 2000; i++) {
            all.add(x.peek(i));
        }
        for (int name = 0; name < 6; name++) {
            all.add(x.fileOf(name, 0));
            for (int i = 0; i < x.fileOf(name, 1); i++) {
                all.add(x.byteOf(name, i));
            }
        }
        for (int i = 0; i < x.depth(); i++) {
            all.add(x.table(i, 0));
            all.add(x.table(i, 1));
        }
        for (int i = 0; i < 100; i++) {
            all.add(x.shown(i));
        }
        for (int i = 0; i < 40; i++) {
            all.add(x.lineAt(i));
        }
        for (int i = 0; i < x.told(10); i++) {
            all.add(x.order(i, 0));
            all.add(x.order(i, 1));
        }
        return all;
    }
}
