/** What the tests share: comparing answers, and some runs of calls that many of them need. */
final class Check {
    static final int UNKNOWN = -1, OUTSIDE = -2, STATE = -3, ROOM = -4, REFUSED = -5, NONE = -9;
    static final int DEEP = -11, MEMORY = -12, MISSING = -13, SHORT = -14, SIZE = -15, KIND = -16;
    static final int LEAST = Integer.MIN_VALUE, MOST = Integer.MAX_VALUE;

    private static String sentence = "";
    private static int checks = 0;
    private static int checksBefore = -1;
    private static int sentences = 0;
    private static int wrong = 0;

    private Check() {
    }

    /** The words of the document to which the answers from here on are held. */
    static void sentence(String where, String words) {
        endSentence();
        sentences++;
        sentence = where + " \"" + words + "\": ";
    }

    private static void endSentence() {
        if (checks == checksBefore) {
            wrong++;
            System.out.println(sentence + "nothing was held to it");
        }
        checksBefore = checks;
    }

    static void due(String what, Object got, Object want) {
        checks++;
        if (!got.equals(want)) {
            wrong++;
            System.out.println(sentence + what + " answered " + got + ", due is " + want);
        }
    }

    static void end() {
        endSentence();
        System.out.println(checks + " answers" + (sentences > 0 ? " to " + sentences + " sentences" : "") + ", "
            + wrong + " not as due");
        if (wrong != 0 || checks == 0) {
            System.exit(1);
        }
    }

    /** The rows of the order, as "kind:number" behind one another. */
    static String rows(Machine seen) {
        Machine x = seen.again();
        StringBuilder text = new StringBuilder();
        int rows = x.told(10);
        for (int i = 0; i < rows; i++) {
            text.append(i == 0 ? "" : " ").append(x.order(i, 0)).append(':').append(x.order(i, 1));
        }
        return text.toString();
    }

    /** The bytes of a file as text, the end of a line as '/'. */
    static String text(Machine seen, int name) {
        Machine x = seen.again();
        StringBuilder text = new StringBuilder();
        int length = x.fileOf(name, 1);
        for (int i = 0; i < length; i++) {
            text.append((char) x.byteOf(name, i));
        }
        return text.toString().replace('\r', '/');
    }

    /** The latest line as text. */
    static String line(Machine seen) {
        Machine x = seen.again();
        StringBuilder text = new StringBuilder();
        for (int i = 0; i < 40; i++) {
            int c = x.lineAt(i);
            if (c != NONE) {
                text.append((char) c);
            }
        }
        return text.toString();
    }

    /** The signs on the screen as text, the oldest first, the end of a line as '/'. */
    static String screen(Machine seen) {
        Machine x = seen.again();
        StringBuilder text = new StringBuilder();
        for (int i = 0; i < 100; i++) {
            int c = x.shown(i);
            if (c != NONE) {
                text.append((char) c);
            }
        }
        return text.reverse().toString().replace('\r', '/');
    }

    /** Bytes of the memory, behind one another with a blank between. */
    static String bytes(Machine seen, int from, int n) {
        Machine x = seen.again();
        StringBuilder text = new StringBuilder();
        for (int i = 0; i < n; i++) {
            text.append(i == 0 ? "" : " ").append(x.peek(from + i));
        }
        return text.toString();
    }

    /** Types the signs of a text, '/' as the end of a line. */
    static void type(Streams x, String text) {
        for (char c : text.toCharArray()) {
            x.type(c == '/' ? 13 : c);
        }
    }

    /** Sends the signs of a text, '/' as the end of a line. */
    static void sign(Streams x, String text) {
        for (char c : text.toCharArray()) {
            x.sign(c == '/' ? 13 : c);
        }
    }

    /** Makes a file a TEXT of these signs and a 13; its order rows are 0:name 1:name. */
    static void writeText(Streams x, int name, String text) {
        x.answer(name);
        x.choose(4, true, 0);
        for (String line : text.split("/")) {
            type(x, line + "/");
            x.line(40);
        }
        x.choose(4, false, 0);
    }

    /** Makes a file a TEXT without signs; its order rows are 0:name 1:name. */
    static void writeEmptyText(Streams x, int name) {
        x.answer(name);
        x.choose(4, true, 0);
        x.choose(4, false, 0);
    }

    /** Makes a file a PART of n bytes of the memory. */
    static void writePart(Streams x, int name, int from, int n) {
        x.answer(name);
        x.save(from, n);
    }
}
