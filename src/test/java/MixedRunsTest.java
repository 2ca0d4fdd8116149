import java.util.HashMap;
import java.util.List;
import java.util.Map;
import java.util.Random;

/**
 * Long runs of mixed calls, right and wrong ones, held against Model; and that a refusal, which
 * is known by its answer, leaves all that can be seen as it was. The seeds are fixed.
 */
public final class MixedRunsTest {
    private static final int RUNS = 3000, CALLS = 512;
    private static final int[] EDGES = {Integer.MIN_VALUE, Integer.MIN_VALUE + 1, -2000, -10, -9, -2, -1, 0, 1, 2, 3,
        4, 5, 6, 9, 10, 13, 16, 17, 40, 41, 60, 99, 100, 126, 127, 199, 200, 255, 256, 399, 400, 401, 1600, 1998,
        1999, 2000, 2001, 65535, 65536, Integer.MAX_VALUE - 1, Integer.MAX_VALUE};

    private final Random random;
    private final ZStreams real;
    private final Model model;
    private final Map<Integer, Integer> answers;
    private String call;
    private int got;
    private int want;

    private MixedRunsTest(int seed, Map<Integer, Integer> answers) {
        random = new Random(seed);
        int version = random.nextInt(10);
        real = new ZStreams(version);
        model = new Model(version);
        this.answers = answers;
    }

    public static void main(String[] args) {
        Map<Integer, Integer> answers = new HashMap<>();
        for (int seed = 0; seed < RUNS; seed++) {
            new MixedRunsTest(seed, answers).run(seed);
        }
        for (int answer : new int[] {-1, -2, -3, -4, -5, -9, -11, -12, -13, -14, -15, -16}) {
            Check.due("the runs come upon " + answer, answers.getOrDefault(answer, 0) > 20, true);
        }
        refusals();
        Check.end();
    }

    private void run(int seed) {
        int favourite = random.nextInt(24);
        for (int i = 0; i < CALLS; i++) {
            make(random.nextInt(3) == 0 ? favourite : random.nextInt(24));
            answers.merge(got, 1, Integer::sum);
            Check.due("seed " + seed + ", call " + i + ": " + call, got, want);
        }
        compareAll(seed);
    }

    private void compareAll(int seed) {
        for (int i = 0; i < 2000; i++) {
            Check.due("seed " + seed + ": peek " + i, real.peek(i), model.peek(i));
        }
        for (int i = 0; i <= 11; i++) {
            Check.due("seed " + seed + ": told " + i, real.told(i), model.told(i));
        }
        for (int i = 0; i <= 200; i++) {
            Check.due("seed " + seed + ": kind " + i, real.order(i, 0), model.order(i, 0));
            Check.due("seed " + seed + ": number " + i, real.order(i, 1), model.order(i, 1));
            Check.due("seed " + seed + ": shown " + i, real.shown(i), model.shown(i));
            Check.due("seed " + seed + ": lineAt " + i, real.lineAt(i), model.lineAt(i));
        }
        for (int name = 0; name < 6; name++) {
            Check.due("seed " + seed + ": file " + name, real.fileOf(name, 0), model.fileOf(name, 0));
            for (int i = 0; i <= real.fileOf(name, 1); i++) {
                Check.due("seed " + seed + ": byte " + name + " " + i, real.byteOf(name, i), model.byteOf(name, i));
            }
        }
    }

    /** A number of least to most, but now and then one from anywhere. */
    private int some(int least, int most) {
        if (random.nextInt(12) == 0) {
            return EDGES[random.nextInt(EDGES.length)];
        }
        return least + random.nextInt(most - least + 1);
    }

    private int someSign() {
        return random.nextInt(5) == 0 ? 13 : some(32, 126);
    }

    private int someName() {
        return random.nextInt(6) == 0 ? -9 : some(0, 5);
    }

    private void answered(String text, int fromReal, int fromModel) {
        call = text;
        got = fromReal;
        want = fromModel;
    }

    private void make(int which) {
        boolean on = random.nextInt(3) > 0;
        if (which < 8) {
            makeStreams(which, on);
        } else if (which < 15) {
            makeFiles(which);
        } else {
            makeOthers(which, on);
        }
    }

    private void makeStreams(int which, boolean on) {
        int a = some(1, 4);
        int place = some(0, random.nextBoolean() ? 40 : 2000);
        int c = someSign();
        int i = some(0, 17);
        int what = some(0, 1);
        int ago = some(0, 101);
        switch (which) {
            case 0 -> answered("choose " + a + " " + on + " " + place, real.choose(a, on, place), model.choose(a, on, place));
            case 1, 2 -> answered("sign " + c, real.sign(c), model.sign(c));
            case 3 -> answered("depth", real.depth(), model.depth());
            case 4 -> answered("table " + i + " " + what, real.table(i, what), model.table(i, what));
            case 5 -> answered("shown " + ago, real.shown(ago), model.shown(ago));
            case 6 -> answered("transcript " + on, real.transcript(on), model.transcript(on));
            default -> answered("peek " + place, real.peek(place), model.peek(place));
        }
    }

    private void makeFiles(int which) {
        int place = some(0, random.nextBoolean() ? 40 : 2000);
        int v = some(0, 255);
        int name = someName();
        int what = some(0, 1);
        int i = some(0, 20);
        int n = some(0, random.nextBoolean() ? 10 : 405);
        switch (which) {
            case 8 -> answered("poke " + place + " " + v, real.poke(place, v), model.poke(place, v));
            case 9 -> answered("answer " + name, real.answer(name), model.answer(name));
            case 10 -> answered("fileOf " + name + " " + what, real.fileOf(name, what), model.fileOf(name, what));
            case 11 -> answered("byteOf " + name + " " + i, real.byteOf(name, i), model.byteOf(name, i));
            case 12 -> answered("drop " + name, real.drop(name), model.drop(name));
            case 13 -> answered("save " + place + " " + n, real.save(place, n), model.save(place, n));
            default -> answered("load " + place + " " + n, real.load(place, n), model.load(place, n));
        }
    }

    private void makeOthers(int which, boolean on) {
        int c = someSign();
        int most = some(1, random.nextBoolean() ? 4 : 40);
        int i = some(0, 12);
        int number = some(1, 9);
        int effect = some(1, 4);
        int turns = random.nextInt(9) == 0 ? 255 : some(0, 4);
        int routine = some(0, 3);
        int what = some(0, 1);
        switch (which) {
            case 15, 16 -> answered("type " + c, real.type(c), model.type(c));
            case 17 -> answered("source " + on, real.source(on), model.source(on));
            case 18 -> answered("line " + most, real.line(most), model.line(most));
            case 19 -> answered("lineAt " + i, real.lineAt(i), model.lineAt(i));
            case 20 -> answered("sound " + number + " " + effect + " " + turns + " " + routine,
                real.sound(number, effect, turns, routine), model.sound(number, effect, turns, routine));
            case 21 -> answered("ended", real.ended(), model.ended());
            case 22 -> answered("order " + i + " " + what, real.order(i, what), model.order(i, what));
            default -> {
                answered("told " + i, real.told(i), model.told(i));
                Check.due("sounds " + i, real.sounds(i), model.sounds(i));
            }
        }
    }

    /** UNKNOWN, OUTSIDE, STATE and ROOM change nothing (but for STATE behind a file that is ended). */
    private static void refusals() {
        for (int seed = 0; seed < 60; seed++) {
            MixedRunsTest run = new MixedRunsTest(seed, new HashMap<>());
            for (int i = 0; i < 200; i++) {
                List<Integer> before = Check.state(run.real);
                int source = run.real.told(7);
                run.make(run.random.nextInt(24));
                boolean refused = run.got <= -1 && run.got >= -4 && source == run.real.told(7);
                if (refused) {
                    Check.due("after " + run.call, Check.state(run.real), before);
                }
            }
        }
    }
}
