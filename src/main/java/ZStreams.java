/**
 * The streams of a story machine: screen, transcript, tables in memory and commands, with the
 * lines, files and sounds around them. The document ../shared/DOC.md says what each call does.
 */
public final class ZStreams {
    public static final int UNKNOWN = -1, OUTSIDE = -2, STATE = -3, ROOM = -4, REFUSED = -5, NONE = -9;

    private static final int DEEP = -11, MEMORY = -12, MISSING = -13, SHORT = -14, SIZE = -15, KIND = -16;

    private static final int SCREEN = 1, TRANSCRIPT = 2, TABLES = 3, COMMANDS = 4;

    private static final int ASKED = 0, MADE = 1, CLOSED = 2, ENDED = 3;
    private static final int BLEEP = 4, BEGAN = 5, STOPPED = 6, CALLED = 7;

    private static final int LAST_VERSION = 8, FIRST_WITH_TABLES = 3, FIRST_WITH_NESTING = 5, FIRST_WITH_ROUTINES = 5;
    private static final int END_OF_LINE = 13, FIRST_SIGN = 32, LAST_SIGN = 126;
    private static final int MOST_ANSWERS = 8, MOST_TYPED = 60;

    private final int version;
    private final Memory memory;
    private final Files files;
    private final Queue answers;
    private final Queue typed;
    private final Tables tables;
    private final Screen screen;
    private final Line latest;
    private final Log log;
    private final Player player;

    private int transcriptFile;
    private int commandsFile;
    private int sourceFile;
    private int sourceAt;
    private int toTranscript;
    private int intoTables;
    private int toCommands;
    private int lost;

    public ZStreams(int version) {
        this.version = Math.max(1, Math.min(LAST_VERSION, version));
        memory = new Memory();
        files = new Files();
        answers = new Queue(MOST_ANSWERS);
        typed = new Queue(MOST_TYPED);
        tables = new Tables(this.version < FIRST_WITH_NESTING ? 1 : Tables.MOST);
        screen = new Screen();
        latest = new Line();
        log = new Log();
        player = new Player();
        transcriptFile = NONE;
        commandsFile = NONE;
        sourceFile = NONE;
    }

    // ---- streams

    public int choose(int stream, boolean on, int table) {
        if (!hasStream(stream)) {
            return UNKNOWN;
        }
        switch (stream) {
            case SCREEN:
                screen.turn(on);
                return 1;
            case TRANSCRIPT:
                return on ? turnTranscriptOn() : turnTranscriptOff();
            case TABLES:
                return on ? openTable(table) : closeTable();
            default:
                return on ? turnCommandsOn() : turnCommandsOff();
        }
    }

    public int sign(int c) {
        if (!isSign(c)) {
            return OUTSIDE;
        }
        return tables.open() > 0 ? writeIntoTable(c) : show(c);
    }

    public int depth() {
        return tables.open();
    }

    public int table(int i, int what) {
        if (!tables.has(i)) {
            return UNKNOWN;
        }
        switch (what) {
            case 0:
                return tables.addressOf(i);
            case 1:
                return tables.countOf(i);
            default:
                return OUTSIDE;
        }
    }

    public int shown(int ago) {
        return screen.before(ago);
    }

    public int transcript(boolean bit) {
        int was = memory.bit();
        memory.setBit(bit);
        return was;
    }

    // ---- the memory, files, names

    public int peek(int at) {
        return memory.has(at) ? memory.get(at) : UNKNOWN;
    }

    public int poke(int at, int v) {
        if (!memory.has(at)) {
            return UNKNOWN;
        }
        if (v < 0 || v > 255) {
            return OUTSIDE;
        }
        int was = memory.get(at);
        memory.set(at, v);
        return was;
    }

    public int answer(int name) {
        if (name != NONE && !files.has(name)) {
            return OUTSIDE;
        }
        if (answers.isFull()) {
            return ROOM;
        }
        answers.add(name);
        return answers.waiting();
    }

    public int fileOf(int name, int what) {
        if (!files.has(name)) {
            return UNKNOWN;
        }
        switch (what) {
            case 0:
                return files.kindOf(name);
            case 1:
                return files.lengthOf(name);
            default:
                return OUTSIDE;
        }
    }

    public int byteOf(int name, int i) {
        return files.hasByte(name, i) ? files.get(name, i) : UNKNOWN;
    }

    public int drop(int name) {
        if (!files.has(name)) {
            return UNKNOWN;
        }
        if (!files.isThere(name)) {
            return 0;
        }
        files.remove(name);
        return 1;
    }

    public int save(int from, int n) {
        if (n > Files.MOST_BYTES) {
            return ROOM;
        }
        if (n < 0) {
            return SIZE;
        }
        if (!memory.hasAll(from, n)) {
            return MEMORY;
        }
        int name = ask();
        if (name == NONE) {
            return REFUSED;
        }
        files.makeEmpty(name, Files.PART);
        for (int i = 0; i < n; i++) {
            files.append(name, Files.PART, memory.get(from + i));
        }
        return 1;
    }

    public int load(int at, int n) {
        int name = ask();
        int fault = faultOfLoad(name, at, n);
        if (fault != 0) {
            return fault;
        }
        for (int i = 0; i < n; i++) {
            memory.set(at + i, files.get(name, i));
        }
        return files.lengthOf(name);
    }

    // ---- lines

    public int type(int c) {
        if (!isSign(c)) {
            return OUTSIDE;
        }
        if (typed.isFull()) {
            return ROOM;
        }
        typed.add(c);
        return typed.waiting();
    }

    public int source(boolean file) {
        if (!file) {
            sourceFile = NONE;
            return 1;
        }
        int name = ask();
        if (name == NONE) {
            return REFUSED;
        }
        if (!files.isThere(name)) {
            return MISSING;
        }
        if (!files.is(name, Files.TEXT)) {
            return KIND;
        }
        sourceFile = name;
        sourceAt = 0;
        return 1;
    }

    public int line(int most) {
        if (most < 1 || most > Line.MOST) {
            return OUTSIDE;
        }
        endSpentSource();
        boolean fromKeyboard = sourceFile == NONE;
        if (fromKeyboard) {
            if (!typed.contains(END_OF_LINE) && typed.waiting() < most) {
                return STATE;
            }
            readTyped(most);
        } else {
            readFile(most);
        }
        echoLine(fromKeyboard);
        return latest.length();
    }

    public int lineAt(int i) {
        return latest.get(i);
    }

    // ---- sounds

    public int sound(int number, int effect, int turns, int routine) {
        if (number < 1 || number > Player.LAST) {
            return UNKNOWN;
        }
        if (effect < 1 || effect > 4 || turns < 0 || turns > 255 || routine < 0 || routine > 65535) {
            return OUTSIDE;
        }
        if (number <= Player.LAST_BLEEP) {
            log.add(BLEEP, number);
            return 1;
        }
        switch (effect) {
            case 1:
                return player.prepare(number);
            case 2:
                return player.begin(log, number, turns, version < FIRST_WITH_ROUTINES ? 0 : routine);
            case 3:
                return player.stop(log, number);
            default:
                return player.release(log, number);
        }
    }

    public int ended() {
        return player.endTurn(log);
    }

    public int sounds(int what) {
        switch (what) {
            case 0:
                return player.playing();
            case 1:
                return player.turnsLeft();
            case 2:
                return player.routineCalled();
            default:
                return Player.canBeReady(what) ? player.readiness(what) : OUTSIDE;
        }
    }

    // ---- what was done

    public int order(int i, int what) {
        if (!log.has(i)) {
            return UNKNOWN;
        }
        switch (what) {
            case 0:
                return log.kindOf(i);
            case 1:
                return log.numberOf(i);
            default:
                return OUTSIDE;
        }
    }

    public int told(int what) {
        switch (what) {
            case 0:
                return screen.came();
            case 1:
                return toTranscript;
            case 2:
                return intoTables;
            case 3:
                return toCommands;
            case 4:
                return lost;
            case 5:
                return answers.waiting();
            case 6:
                return typed.waiting();
            case 7:
                return sourceFile;
            case 8:
                return transcriptFile;
            case 9:
                return commandsFile;
            case 10:
                return log.rows();
            case 11:
                return version;
            default:
                return OUTSIDE;
        }
    }

    // ---- how streams are chosen

    private boolean hasStream(int stream) {
        int last = version < FIRST_WITH_TABLES ? TRANSCRIPT : COMMANDS;
        return stream >= SCREEN && stream <= last;
    }

    private int turnTranscriptOn() {
        if (transcriptFile == NONE) {
            int got = giveTranscriptFile();
            if (got != 1) {
                return got;
            }
        }
        memory.setBit(true);
        return 1;
    }

    private int turnTranscriptOff() {
        memory.setBit(false);
        return 1;
    }

    private int openTable(int address) {
        if (tables.isFull()) {
            return DEEP;
        }
        if (!memory.hasAll(address, 2)) {
            return MEMORY;
        }
        tables.push(address);
        return 1;
    }

    private int closeTable() {
        if (tables.open() == 0) {
            return 1;
        }
        int innermost = tables.open() - 1;
        int count = tables.countOf(innermost);
        memory.setTwo(tables.addressOf(innermost), count);
        tables.pop();
        log.add(CLOSED, count);
        return 1;
    }

    private int turnCommandsOn() {
        int name = ask();
        if (name == NONE) {
            return REFUSED;
        }
        files.makeEmpty(name, Files.TEXT);
        log.add(MADE, name);
        commandsFile = name;
        return 1;
    }

    private int turnCommandsOff() {
        commandsFile = NONE;
        return 1;
    }

    // ---- names and files

    /** The next answer, or NONE where the act that asks ends REFUSED. */
    private int ask() {
        int name = answers.take();
        log.add(ASKED, name);
        return name;
    }

    private int giveTranscriptFile() {
        int name = ask();
        if (name == NONE) {
            return REFUSED;
        }
        if (files.is(name, Files.PART)) {
            return KIND;
        }
        if (!files.isThere(name)) {
            files.makeEmpty(name, Files.TEXT);
            log.add(MADE, name);
        }
        transcriptFile = name;
        return 1;
    }

    private int faultOfLoad(int name, int at, int n) {
        if (name == NONE) {
            return REFUSED;
        }
        if (files.is(name, Files.TEXT)) {
            return KIND;
        }
        if (!files.isThere(name)) {
            return MISSING;
        }
        if (n < 0) {
            return SIZE;
        }
        if (n > files.lengthOf(name)) {
            return SHORT;
        }
        return memory.hasAll(at, n) ? 0 : MEMORY;
    }

    // ---- where signs go

    private static boolean isSign(int c) {
        return c == END_OF_LINE || (c >= FIRST_SIGN && c <= LAST_SIGN);
    }

    private int writeIntoTable(int c) {
        int innermost = tables.open() - 1;
        int at = tables.addressOf(innermost) + 2 + tables.countOf(innermost);
        if (!memory.has(at)) {
            return MEMORY;
        }
        memory.set(at, c);
        tables.countOneMore();
        intoTables++;
        return 1;
    }

    /** To screen and transcript, as each is on: to how many of them the sign came. */
    private int show(int c) {
        int came = 0;
        if (screen.isOn()) {
            screen.add(c);
            came++;
        }
        if (memory.bit() == 1 && writeToTranscript(c)) {
            came++;
        }
        return came;
    }

    private boolean writeToTranscript(int c) {
        if (transcriptFile == NONE) {
            giveTranscriptFile();
        }
        boolean came = writeBehind(transcriptFile, c);
        if (came) {
            toTranscript++;
        }
        return came;
    }

    private void writeToCommands(int c) {
        if (commandsFile != NONE && writeBehind(commandsFile, c)) {
            toCommands++;
        }
    }

    /** A stream that got no file comes here with NONE, which is no TEXT: its sign is lost too. */
    private boolean writeBehind(int name, int c) {
        boolean came = files.append(name, Files.TEXT, c);
        if (!came) {
            lost++;
        }
        return came;
    }

    // ---- how a line is read

    private void endSpentSource() {
        if (sourceFile == NONE) {
            return;
        }
        if (files.is(sourceFile, Files.TEXT) && sourceAt < files.lengthOf(sourceFile)) {
            return;
        }
        log.add(ENDED, sourceFile);
        sourceFile = NONE;
    }

    private void readTyped(int most) {
        latest.clear();
        for (int i = 0; i < most; i++) {
            int c = typed.take();
            if (c == END_OF_LINE || c == NONE) {
                return;
            }
            latest.add(c);
        }
    }

    private void readFile(int most) {
        latest.clear();
        int end = files.lengthOf(sourceFile);
        for (int i = 0; i < most && sourceAt < end; i++) {
            int c = files.get(sourceFile, sourceAt);
            sourceAt++;
            if (c == END_OF_LINE) {
                return;
            }
            latest.add(c);
        }
    }

    private void echoLine(boolean wasTyped) {
        int length = latest.length();
        for (int i = 0; i <= length; i++) {
            int c = i < length ? latest.get(i) : END_OF_LINE;
            show(c);
            if (wasTyped) {
                writeToCommands(c);
            }
        }
    }

    /** The bytes of the story machine; the lowest bit of one of them is the transcript's. */
    private static final class Memory {
        private static final int BYTES = 2000, BYTE_OF_BIT = 17;

        private final int[] bytes = new int[BYTES];

        boolean has(int at) {
            return at >= 0 && at < BYTES;
        }

        boolean hasAll(int from, int n) {
            return n >= 0 && n <= BYTES && from >= 0 && from <= BYTES - n;
        }

        int get(int at) {
            return has(at) ? bytes[at] : 0;
        }

        void set(int at, int v) {
            if (has(at)) {
                bytes[at] = v & 255;
            }
        }

        void setTwo(int at, int v) {
            set(at, v >> 8);
            set(at + 1, v);
        }

        int bit() {
            return bytes[BYTE_OF_BIT] & 1;
        }

        void setBit(boolean on) {
            bytes[BYTE_OF_BIT] = (bytes[BYTE_OF_BIT] & 254) | (on ? 1 : 0);
        }
    }

    /** The files 0 to 5; the kind of one that is not there is NONE, and its length 0. */
    private static final class Files {
        private static final int FILES = 6, MOST_BYTES = 400, TEXT = 0, PART = 1;

        private final int[] kinds = new int[FILES];
        private final int[] lengths = new int[FILES];
        private final int[][] bytes = new int[FILES][MOST_BYTES];

        Files() {
            for (int i = 0; i < FILES; i++) {
                kinds[i] = NONE;
            }
        }

        boolean has(int name) {
            return name >= 0 && name < FILES;
        }

        boolean isThere(int name) {
            return has(name) && kinds[name] != NONE;
        }

        boolean is(int name, int kind) {
            return has(name) && kinds[name] == kind;
        }

        int kindOf(int name) {
            return has(name) ? kinds[name] : NONE;
        }

        int lengthOf(int name) {
            return has(name) ? lengths[name] : 0;
        }

        boolean hasByte(int name, int i) {
            return i >= 0 && i < lengthOf(name);
        }

        int get(int name, int i) {
            return hasByte(name, i) ? bytes[name][i] : 0;
        }

        void remove(int name) {
            makeEmpty(name, NONE);
        }

        void makeEmpty(int name, int kind) {
            if (has(name)) {
                kinds[name] = kind;
                lengths[name] = 0;
            }
        }

        /** Whether the byte came behind the others: the file is of that kind and has room. */
        boolean append(int name, int kind, int v) {
            if (!has(name) || kinds[name] != kind || lengths[name] >= MOST_BYTES) {
                return false;
            }
            bytes[name][lengths[name]] = v;
            lengths[name]++;
            return true;
        }
    }

    /** Numbers that wait, the oldest first. */
    private static final class Queue {
        private final int[] items;
        private int size;

        Queue(int most) {
            items = new int[Math.max(0, most)];
        }

        int waiting() {
            return size;
        }

        boolean isFull() {
            return size >= items.length;
        }

        boolean contains(int v) {
            for (int i = 0; i < size; i++) {
                if (items[i] == v) {
                    return true;
                }
            }
            return false;
        }

        void add(int v) {
            if (!isFull()) {
                items[size] = v;
                size++;
            }
        }

        /** The oldest one, which waits no more, or NONE. */
        int take() {
            if (size == 0) {
                return NONE;
            }
            int first = items[0];
            size--;
            for (int i = 0; i < size; i++) {
                items[i] = items[i + 1];
            }
            return first;
        }
    }

    /** The tables that are open, the outermost first. */
    private static final class Tables {
        private static final int MOST = 16;

        private final int most;
        private final int[] addresses = new int[MOST];
        private final int[] counts = new int[MOST];
        private int size;

        Tables(int most) {
            this.most = Math.min(MOST, most);
        }

        int open() {
            return size;
        }

        boolean isFull() {
            return size >= most;
        }

        boolean has(int i) {
            return i >= 0 && i < size;
        }

        int addressOf(int i) {
            return has(i) ? addresses[i] : 0;
        }

        int countOf(int i) {
            return has(i) ? counts[i] : 0;
        }

        void push(int address) {
            if (!isFull()) {
                addresses[size] = address;
                counts[size] = 0;
                size++;
            }
        }

        void pop() {
            if (size > 0) {
                size--;
            }
        }

        void countOneMore() {
            if (size > 0) {
                counts[size - 1]++;
            }
        }
    }

    /** The screen, with the latest signs that came to it held in a ring. */
    private static final class Screen {
        private static final int KEPT = 100;

        private final int[] ring = new int[KEPT];
        private int signs;
        private boolean on = true;

        boolean isOn() {
            return on;
        }

        void turn(boolean to) {
            on = to;
        }

        int came() {
            return signs;
        }

        void add(int c) {
            ring[Math.floorMod(signs, KEPT)] = c;
            signs++;
        }

        int before(int ago) {
            if (ago < 0 || ago >= KEPT || ago >= signs) {
                return NONE;
            }
            return ring[Math.floorMod(signs - 1 - ago, KEPT)];
        }
    }

    /** The latest line that was read. */
    private static final class Line {
        private static final int MOST = 40;

        private final int[] signs = new int[MOST];
        private int size;

        int length() {
            return size;
        }

        int get(int i) {
            return i >= 0 && i < size ? signs[i] : NONE;
        }

        void clear() {
            size = 0;
        }

        void add(int c) {
            if (size < MOST) {
                signs[size] = c;
                size++;
            }
        }
    }

    /** The order: what was done, the first rows alone. */
    private static final class Log {
        private static final int MOST = 200;

        private final int[] kinds = new int[MOST];
        private final int[] numbers = new int[MOST];
        private int size;

        int rows() {
            return size;
        }

        boolean has(int i) {
            return i >= 0 && i < size;
        }

        int kindOf(int i) {
            return has(i) ? kinds[i] : NONE;
        }

        int numberOf(int i) {
            return has(i) ? numbers[i] : NONE;
        }

        void add(int kind, int number) {
            if (size < MOST) {
                kinds[size] = kind;
                numbers[size] = number;
                size++;
            }
        }
    }

    /** The sounds that are no bleeps: which ones are ready, and the one that plays. */
    private static final class Player {
        private static final int LAST_BLEEP = 2, LAST = 9, FOR_EVER = 255;

        private final boolean[] ready = new boolean[LAST + 1];
        private int current = NONE;
        private int turns;
        private int routine;

        static boolean canBeReady(int number) {
            return number > LAST_BLEEP && number <= LAST;
        }

        int playing() {
            return current;
        }

        int turnsLeft() {
            return turns;
        }

        int routineCalled() {
            return routine;
        }

        int readiness(int number) {
            return canBeReady(number) && ready[number] ? 1 : 0;
        }

        int prepare(int number) {
            makeReady(number, true);
            return 1;
        }

        int begin(Log log, int number, int wantedTurns, int wantedRoutine) {
            stop(log, current);
            makeReady(number, true);
            current = number;
            turns = Math.max(1, wantedTurns);
            routine = wantedRoutine;
            log.add(BEGAN, number);
            return 1;
        }

        int stop(Log log, int number) {
            if (current == NONE || current != number) {
                return 0;
            }
            log.add(STOPPED, current);
            current = NONE;
            turns = 0;
            routine = 0;
            return 1;
        }

        int release(Log log, int number) {
            stop(log, number);
            int was = readiness(number);
            makeReady(number, false);
            return was;
        }

        int endTurn(Log log) {
            if (current == NONE) {
                return STATE;
            }
            if (turns == FOR_EVER) {
                return 0;
            }
            turns--;
            if (turns > 0) {
                return 0;
            }
            int called = routine;
            stop(log, current);
            if (called == 0) {
                return 0;
            }
            log.add(CALLED, called);
            return 1;
        }

        private void makeReady(int number, boolean to) {
            if (canBeReady(number)) {
                ready[number] = to;
            }
        }
    }
}
