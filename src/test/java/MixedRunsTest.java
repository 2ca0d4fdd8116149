import java.util.ArrayList;
import java.util.HashMap;
import java.util.List;
import java.util.Map;
import java.util.Random;

/**
 * Long runs of mixed calls, right and wrong ones, held against Model: their answers, all that can
 * be seen behind some of them, and that a run answers the same without its refused calls, which
 * change nothing. The seeds are fixed.
 */
public final class MixedRunsTest {
    private static final int RUNS = 3000, LOOKED_AT = 300;
    private static final int[] EDGES = {Integer.MIN_VALUE, Integer.MIN_VALUE + 1, -2000, -10, -9, -2, -1, 0, 1, 2, 3,
        4, 5, 6, 9, 10, 13, 16, 17, 40, 41, 60, 99, 100, 126, 127, 199, 200, 255, 256, 399, 400, 401, 1600, 1998,
        1999, 2000, 2001, 65535, 65536, Integer.MAX_VALUE - 1, Integer.MAX_VALUE};

    private final int seed;
    private final Random random;
    private final int version;
    private final Machine real;
    private final Model model;
    private final List<Call> made = new ArrayList<>();
    private final List<Call> kept = new ArrayList<>();
    private final List<Integer> keptAnswers = new ArrayList<>();

    private MixedRunsTest(int seed) {
        this.seed = seed;
        random = new Random(seed);
        version = random.nextInt(10);
        real = new Machine(version);
        model = new Model(version);
    }

    public static void main(String[] args) {
        Map<Integer, Integer> answers = new HashMap<>();
        for (int seed = 0; seed < RUNS; seed++) {
            MixedRunsTest test = new MixedRunsTest(seed);
            test.run(Machine.MOST_CALLS, answers);
            test.runWithoutRefusals();
        }
        for (int seed = RUNS; seed < RUNS + LOOKED_AT; seed++) {
            MixedRunsTest test = new MixedRunsTest(seed);
            test.run(test.random.nextInt(Machine.MOST_CALLS - Sight.CALLS), answers);
            test.compareSights();
        }
        for (int answer : new int[] {-1, -2, -3, -4, -5, -9, -11, -12, -13, -14, -15, -16}) {
            Check.due("the runs come upon " + answer, answers.getOrDefault(answer, 0) > 20, true);
        }
        Check.end();
    }

    private void run(int calls, Map<Integer, Integer> answers) {
        int favourite = random.nextInt(24);
        for (int i = 0; i < calls; i++) {
            Call call = some(random.nextInt(3) == 0 ? favourite : random.nextInt(24));
            int source = model.told(7);
            int got = call.on(real);
            int want = call.on(model);
            Check.due("seed " + seed + ", call " + i + ": " + call.text(), got, want);
            answers.merge(got, 1, Integer::sum);
            made.add(call);
            boolean refused = got <= -1 && got >= -4;
            boolean endedFile = source != model.told(7);
            if (!refused || endedFile) {
                kept.add(call);
                keptAnswers.add(got);
            }
        }
    }

    private void runWithoutRefusals() {
        Machine other = new Machine(version);
        for (int i = 0; i < kept.size(); i++) {
            Check.due("seed " + seed + " without refusals: " + kept.get(i).text(), kept.get(i).on(other),
                keptAnswers.get(i));
        }
    }

    private void compareSights() {
        Map<String, Object> want = Sight.of(real.callsLeft(), this::modelAgain);
        Map<String, Object> got = real.sight();
        for (String name : want.keySet()) {
            Check.due("seed " + seed + " behind its calls: " + name, got.get(name), want.get(name));
        }
    }

    private Streams modelAgain() {
        Model other = new Model(version);
        for (Call call : made) {
            call.on(other);
        }
        return other;
    }

    /** A number of least to most, but now and then one from anywhere. */
    private int some(int least, int most) {
        if (random.nextInt(12) == 0) {
            return EDGES[random.nextInt(EDGES.length)];
        }
        return least + random.nextInt(most - least + 1);
    }

    private int someSign() {
        return random.nextInt(5) == 0 ? 13 : some(32, 126);
    }

    private int someName() {
        return random.nextInt(6) == 0 ? -9 : some(0, 5);
    }

    private Call some(int which) {
        boolean on = random.nextInt(3) > 0;
        if (which < 8) {
            return someOfStreams(which, on);
        }
        return which < 15 ? someOfFiles(which) : someOther(which, on);
    }

    private Call someOfStreams(int which, boolean on) {
        int a = some(1, 4);
        int place = some(0, random.nextBoolean() ? 40 : 2000);
        int c = someSign();
        int i = some(0, 17);
        int what = some(0, 1);
        int ago = some(0, 101);
        return switch (which) {
            case 0 -> new Call("choose " + a + " " + on + " " + place, x -> x.choose(a, on, place));
            case 1, 2 -> new Call("sign " + c, x -> x.sign(c));
            case 3 -> new Call("depth", x -> x.depth());
            case 4 -> new Call("table " + i + " " + what, x -> x.table(i, what));
            case 5 -> new Call("shown " + ago, x -> x.shown(ago));
            case 6 -> new Call("transcript " + on, x -> x.transcript(on));
            default -> new Call("peek " + place, x -> x.peek(place));
        };
    }

    private Call someOfFiles(int which) {
        int place = some(0, random.nextBoolean() ? 40 : 2000);
        int v = some(0, 255);
        int name = someName();
        int what = some(0, 1);
        int i = some(0, 20);
        int n = some(0, random.nextBoolean() ? 10 : 405);
        return switch (which) {
            case 8 -> new Call("poke " + place + " " + v, x -> x.poke(place, v));
            case 9 -> new Call("answer " + name, x -> x.answer(name));
            case 10 -> new Call("fileOf " + name + " " + what, x -> x.fileOf(name, what));
            case 11 -> new Call("byteOf " + name + " " + i, x -> x.byteOf(name, i));
            case 12 -> new Call("drop " + name, x -> x.drop(name));
            case 13 -> new Call("save " + place + " " + n, x -> x.save(place, n));
            default -> new Call("load " + place + " " + n, x -> x.load(place, n));
        };
    }

    private Call someOther(int which, boolean on) {
        int c = someSign();
        int most = some(1, random.nextBoolean() ? 4 : 40);
        int i = some(0, 12);
        int number = some(1, 9);
        int effect = some(1, 4);
        int turns = random.nextInt(9) == 0 ? 255 : some(0, 4);
        int routine = some(0, 3);
        int what = some(0, 1);
        boolean toldOrSounds = random.nextBoolean();
        return switch (which) {
            case 15, 16 -> new Call("type " + c, x -> x.type(c));
            case 17 -> new Call("source " + on, x -> x.source(on));
            case 18 -> new Call("line " + most, x -> x.line(most));
            case 19 -> new Call("lineAt " + i, x -> x.lineAt(i));
            case 20 -> new Call("sound " + number + " " + effect + " " + turns + " " + routine,
                x -> x.sound(number, effect, turns, routine));
            case 21 -> new Call("ended", x -> x.ended());
            case 22 -> new Call("order " + i + " " + what, x -> x.order(i, what));
            default -> toldOrSounds ? new Call("told " + i, x -> x.told(i)) : new Call("sounds " + i, x -> x.sounds(i));
        };
    }
}
