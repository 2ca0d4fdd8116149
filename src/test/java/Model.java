import java.util.ArrayDeque;
import java.util.ArrayList;
import java.util.Collections;
import java.util.Deque;
import java.util.List;
import java.util.TreeSet;

/** The document told once more in library terms, to hold long mixed runs against. */
final class Model implements Streams {
    private static final class Stored {
        final boolean text;
        final List<Integer> bytes = new ArrayList<>();

        Stored(boolean text) {
            this.text = text;
        }
    }

    private final int version;
    private final int[] memory = new int[2000];
    private final Stored[] files = new Stored[6];
    private final Deque<Integer> answers = new ArrayDeque<>();
    private final List<Integer> typed = new ArrayList<>();
    private final List<int[]> tables = new ArrayList<>();
    private final List<Integer> screen = new ArrayList<>();
    private final List<int[]> rows = new ArrayList<>();
    private final TreeSet<Integer> ready = new TreeSet<>();
    private final int[] told = new int[5];
    private List<Integer> latest = Collections.emptyList();
    private boolean screenOn = true;
    private int transcriptFile = -9;
    private int commandsFile = -9;
    private int sourceFile = -9;
    private int sourceAt;
    private int[] playing;

    Model(int version) {
        this.version = version < 1 ? 1 : version > 8 ? 8 : version;
    }

    private void row(int kind, int number) {
        if (rows.size() < 200) {
            rows.add(new int[] {kind, number});
        }
    }

    private int ask() {
        int name = answers.isEmpty() ? -9 : answers.removeFirst();
        row(0, name);
        return name;
    }

    private static boolean within(int v, int least, int most) {
        return least <= v && v <= most;
    }

    private static boolean isSign(int c) {
        return c == 13 || within(c, 32, 126);
    }

    private static boolean inMemory(long from, long n) {
        return from >= 0 && from + n <= 2000;
    }

    private Stored file(int name) {
        return within(name, 0, 5) ? files[name] : null;
    }

    private void make(int name) {
        files[name] = new Stored(true);
        row(1, name);
    }

    private int getTranscriptFile() {
        int name = ask();
        if (name == -9) {
            return -5;
        }
        if (files[name] != null && !files[name].text) {
            return -16;
        }
        if (files[name] == null) {
            make(name);
        }
        transcriptFile = name;
        return 1;
    }

    @Override
    public int choose(int stream, boolean on, int table) {
        if (!within(stream, 1, version > 2 ? 4 : 2)) {
            return -1;
        }
        if (stream == 1) {
            screenOn = on;
        } else if (stream == 2) {
            int got = on && transcriptFile == -9 ? getTranscriptFile() : 1;
            if (got != 1) {
                return got;
            }
            transcript(on);
        } else if (stream == 3 && on) {
            if (tables.size() == (version > 4 ? 16 : 1)) {
                return -11;
            }
            if (!inMemory(table, 2)) {
                return -12;
            }
            tables.add(new int[] {table, 0});
        } else if (stream == 3 && !tables.isEmpty()) {
            int[] closed = tables.remove(tables.size() - 1);
            memory[closed[0]] = closed[1] / 256;
            memory[closed[0] + 1] = closed[1] % 256;
            row(2, closed[1]);
        } else if (stream == 4) {
            int name = on ? ask() : -9;
            if (on && name == -9) {
                return -5;
            }
            if (on) {
                make(name);
            }
            commandsFile = name;
        }
        return 1;
    }

    private boolean put(int name, int c) {
        Stored f = file(name);
        if (f == null || !f.text || f.bytes.size() == 400) {
            told[4]++;
            return false;
        }
        return f.bytes.add(c);
    }

    private int show(int c) {
        int came = 0;
        if (screenOn) {
            screen.add(c);
            came++;
        }
        if (memory[17] % 2 == 1) {
            if (transcriptFile == -9) {
                getTranscriptFile();
            }
            if (put(transcriptFile, c)) {
                told[1]++;
                came++;
            }
        }
        return came;
    }

    @Override
    public int sign(int c) {
        if (!isSign(c)) {
            return -2;
        }
        if (tables.isEmpty()) {
            return show(c);
        }
        int[] t = tables.get(tables.size() - 1);
        if (!inMemory(t[0] + 2 + t[1], 1)) {
            return -12;
        }
        memory[t[0] + 2 + t[1]++] = c;
        told[2]++;
        return 1;
    }

    @Override
    public int depth() {
        return tables.size();
    }

    @Override
    public int table(int i, int what) {
        return !within(i, 0, tables.size() - 1) ? -1 : !within(what, 0, 1) ? -2 : tables.get(i)[what];
    }

    @Override
    public int shown(int ago) {
        return within(ago, 0, Math.min(100, screen.size()) - 1) ? screen.get(screen.size() - 1 - ago) : -9;
    }

    @Override
    public int transcript(boolean bit) {
        int was = memory[17] % 2;
        memory[17] += (bit ? 1 : 0) - was;
        return was;
    }

    @Override
    public int peek(int at) {
        return inMemory(at, 1) ? memory[at] : -1;
    }

    @Override
    public int poke(int at, int v) {
        int was = peek(at);
        if (was >= 0 && !within(v, 0, 255)) {
            return -2;
        }
        if (was >= 0) {
            memory[at] = v;
        }
        return was;
    }

    @Override
    public int answer(int name) {
        if (name != -9 && !within(name, 0, 5)) {
            return -2;
        }
        if (answers.size() == 8) {
            return -4;
        }
        answers.addLast(name);
        return answers.size();
    }

    @Override
    public int fileOf(int name, int what) {
        Stored f = file(name);
        if (!within(name, 0, 5)) {
            return -1;
        }
        if (!within(what, 0, 1)) {
            return -2;
        }
        return what == 0 ? (f == null ? -9 : f.text ? 0 : 1) : f == null ? 0 : f.bytes.size();
    }

    @Override
    public int byteOf(int name, int i) {
        Stored f = file(name);
        return f == null || !within(i, 0, f.bytes.size() - 1) ? -1 : f.bytes.get(i);
    }

    @Override
    public int drop(int name) {
        if (!within(name, 0, 5)) {
            return -1;
        }
        int was = files[name] == null ? 0 : 1;
        files[name] = null;
        return was;
    }

    @Override
    public int save(int from, int n) {
        int fault = n > 400 ? -4 : n < 0 ? -15 : !inMemory(from, n) ? -12 : 0;
        int name = fault == 0 ? ask() : -9;
        if (name == -9) {
            return fault == 0 ? -5 : fault;
        }
        files[name] = new Stored(false);
        for (int i = from; i < from + n; i++) {
            files[name].bytes.add(memory[i]);
        }
        return 1;
    }

    @Override
    public int load(int at, int n) {
        int name = ask();
        Stored f = file(name);
        if (f == null || f.text) {
            return name == -9 ? -5 : f == null ? -13 : -16;
        }
        int size = f.bytes.size();
        if (n < 0 || n > size || !inMemory(at, n)) {
            return n < 0 ? -15 : n > size ? -14 : -12;
        }
        for (int i = 0; i < n; i++) {
            memory[at + i] = f.bytes.get(i);
        }
        return size;
    }

    @Override
    public int type(int c) {
        if (!isSign(c) || typed.size() == 60) {
            return isSign(c) ? -4 : -2;
        }
        typed.add(c);
        return typed.size();
    }

    @Override
    public int source(boolean isFile) {
        int name = isFile ? ask() : -9;
        Stored f = file(name);
        if (isFile && (f == null || !f.text)) {
            return name == -9 ? -5 : f == null ? -13 : -16;
        }
        sourceFile = name;
        sourceAt = 0;
        return 1;
    }

    @Override
    public int line(int most) {
        if (!within(most, 1, 40)) {
            return -2;
        }
        Stored f = file(sourceFile);
        if (sourceFile != -9 && (f == null || !f.text || f.bytes.size() <= sourceAt)) {
            row(3, sourceFile);
            sourceFile = -9;
        }
        boolean keyboard = sourceFile == -9;
        List<Integer> rest = keyboard ? typed : f.bytes.subList(sourceAt, f.bytes.size());
        int end = rest.indexOf(13);
        if (keyboard && end < 0 && rest.size() < most) {
            return -3;
        }
        int n = Math.min(most, end < 0 ? rest.size() : end);
        latest = new ArrayList<>(rest.subList(0, n));
        int gone = n < most && end >= 0 ? n + 1 : n;
        if (keyboard) {
            typed.subList(0, gone).clear();
        } else {
            sourceAt += gone;
        }
        List<Integer> echoed = new ArrayList<>(latest);
        echoed.add(13);
        for (int c : echoed) {
            show(c);
            if (keyboard && commandsFile != -9 && put(commandsFile, c)) {
                told[3]++;
            }
        }
        return n;
    }

    @Override
    public int lineAt(int i) {
        return within(i, 0, latest.size() - 1) ? latest.get(i) : -9;
    }

    private boolean stop(int number) {
        if (playing == null || playing[0] != number) {
            return false;
        }
        row(6, number);
        playing = null;
        return true;
    }

    @Override
    public int sound(int number, int effect, int turns, int routine) {
        if (!within(number, 1, 9)) {
            return -1;
        }
        if (!within(effect, 1, 4) || !within(turns, 0, 255) || !within(routine, 0, 65535)) {
            return -2;
        }
        if (number < 3) {
            row(4, number);
            return 1;
        }
        if (effect == 3) {
            return stop(number) ? 1 : 0;
        }
        if (effect == 4) {
            stop(number);
            return ready.remove(number) ? 1 : 0;
        }
        ready.add(number);
        if (effect == 2) {
            if (playing != null) {
                stop(playing[0]);
            }
            row(5, number);
            playing = new int[] {number, turns == 0 ? 1 : turns, version > 4 ? routine : 0};
        }
        return 1;
    }

    @Override
    public int ended() {
        if (playing == null) {
            return -3;
        }
        if (playing[1] == 255 || --playing[1] > 0) {
            return 0;
        }
        int routine = playing[2];
        stop(playing[0]);
        if (routine != 0) {
            row(7, routine);
        }
        return routine == 0 ? 0 : 1;
    }

    @Override
    public int sounds(int what) {
        if (!within(what, 0, 9)) {
            return -2;
        }
        return what > 2 ? (ready.contains(what) ? 1 : 0) : playing != null ? playing[what] : what == 0 ? -9 : 0;
    }

    @Override
    public int order(int i, int what) {
        return !within(i, 0, rows.size() - 1) ? -1 : !within(what, 0, 1) ? -2 : rows.get(i)[what];
    }

    @Override
    public int told(int what) {
        int[] all = {screen.size(), told[1], told[2], told[3], told[4], answers.size(), typed.size(),
            sourceFile, transcriptFile, commandsFile, rows.size(), version};
        return within(what, 0, 11) ? all[what] : -2;
    }
}
