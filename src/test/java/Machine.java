import java.util.ArrayList;
import java.util.List;
import java.util.Map;
import java.util.TreeSet;
import java.util.function.ToIntFunction;

/**
 * A ZStreams that keeps the tests within the 512 calls for which the document says anything, and
 * that can be run again from its beginning: a test may look at all there is without using calls up.
 */
final class Machine implements Streams {
    static final int MOST_CALLS = 512;

    private final int version;
    private final int mostCalls;
    private final ZStreams real;
    private final List<ToIntFunction<ZStreams>> calls = new ArrayList<>();

    Machine(int version) {
        this(version, MOST_CALLS);
    }

    /** One that may be called more often: nothing is due of its later answers but that there is one. */
    Machine(int version, int mostCalls) {
        this.version = version;
        this.mostCalls = mostCalls;
        real = new ZStreams(version);
    }

    private int make(ToIntFunction<ZStreams> call) {
        if (calls.size() == mostCalls) {
            throw new IllegalStateException("a test makes more than " + mostCalls + " calls on one object");
        }
        calls.add(call);
        return call.applyAsInt(real);
    }

    /** Another one on which the same calls have been made. */
    Machine again() {
        Machine other = new Machine(version, mostCalls);
        for (ToIntFunction<ZStreams> call : calls) {
            other.make(call);
        }
        return other;
    }

    int callsLeft() {
        return mostCalls - calls.size();
    }

    Map<String, Object> sight() {
        return Sight.of(callsLeft(), this::again);
    }

    /** What looks otherwise now than it did: the names of Sight, in their alphabet's order. */
    String changed(Map<String, Object> before) {
        Map<String, Object> now = sight();
        TreeSet<String> names = new TreeSet<>();
        for (String name : now.keySet()) {
            if (!now.get(name).equals(before.get(name))) {
                names.add(name);
            }
        }
        return String.join(", ", names);
    }

    @Override
    public int choose(int stream, boolean on, int table) {
        return make(z -> z.choose(stream, on, table));
    }

    @Override
    public int sign(int c) {
        return make(z -> z.sign(c));
    }

    @Override
    public int depth() {
        return make(z -> z.depth());
    }

    @Override
    public int table(int i, int what) {
        return make(z -> z.table(i, what));
    }

    @Override
    public int shown(int ago) {
        return make(z -> z.shown(ago));
    }

    @Override
    public int transcript(boolean bit) {
        return make(z -> z.transcript(bit));
    }

    @Override
    public int peek(int at) {
        return make(z -> z.peek(at));
    }

    @Override
    public int poke(int at, int v) {
        return make(z -> z.poke(at, v));
    }

    @Override
    public int answer(int name) {
        return make(z -> z.answer(name));
    }

    @Override
    public int fileOf(int name, int what) {
        return make(z -> z.fileOf(name, what));
    }

    @Override
    public int byteOf(int name, int i) {
        return make(z -> z.byteOf(name, i));
    }

    @Override
    public int drop(int name) {
        return make(z -> z.drop(name));
    }

    @Override
    public int save(int from, int n) {
        return make(z -> z.save(from, n));
    }

    @Override
    public int load(int at, int n) {
        return make(z -> z.load(at, n));
    }

    @Override
    public int type(int c) {
        return make(z -> z.type(c));
    }

    @Override
    public int source(boolean file) {
        return make(z -> z.source(file));
    }

    @Override
    public int line(int most) {
        return make(z -> z.line(most));
    }

    @Override
    public int lineAt(int i) {
        return make(z -> z.lineAt(i));
    }

    @Override
    public int sound(int number, int effect, int turns, int routine) {
        return make(z -> z.sound(number, effect, turns, routine));
    }

    @Override
    public int ended() {
        return make(z -> z.ended());
    }

    @Override
    public int sounds(int what) {
        return make(z -> z.sounds(what));
    }

    @Override
    public int order(int i, int what) {
        return make(z -> z.order(i, what));
    }

    @Override
    public int told(int what) {
        return make(z -> z.told(what));
    }
}
