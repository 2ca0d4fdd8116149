import java.util.ArrayList;
import java.util.HashMap;
import java.util.List;
import java.util.Map;
import java.util.Random;

/**
 * Long runs of mixed calls, right and wrong ones, held against Model: their answers, all that can
 * be seen behind some of them, and that a run answers the same without its refused calls, which
 * change nothing. The seeds are fixed.
 */
public final class MixedRunsTest {
    private static final int RUNS = 3000, LOOKED_AT = 300;

    private final int seed;
    private final Random random;
    private final SomeCalls calls;
    private final int version;
    private final Machine real;
    private final Model model;
    private final List<Call> made = new ArrayList<>();
    private final List<Call> kept = new ArrayList<>();
    private final List<Integer> keptAnswers = new ArrayList<>();

    private MixedRunsTest(int seed) {
        this.seed = seed;
        random = new Random(seed);
        calls = new SomeCalls(random);
        version = random.nextInt(10);
        real = new Machine(version);
        model = new Model(version);
    }

    public static void main(String[] args) {
        Map<Integer, Integer> answers = new HashMap<>();
        for (int seed = 0; seed < RUNS; seed++) {
            MixedRunsTest test = new MixedRunsTest(seed);
            test.run(Machine.MOST_CALLS, answers);
            test.runWithoutRefusals();
        }
        for (int seed = RUNS; seed < RUNS + LOOKED_AT; seed++) {
            MixedRunsTest test = new MixedRunsTest(seed);
            test.run(test.random.nextInt(Machine.MOST_CALLS - Sight.CALLS), answers);
            test.compareSights();
        }
        for (int answer : new int[] {-1, -2, -3, -4, -5, -9, -11, -12, -13, -14, -15, -16}) {
            Check.due("the runs come upon " + answer, answers.getOrDefault(answer, 0) > 20, true);
        }
        Check.end();
    }

    private void run(int length, Map<Integer, Integer> answers) {
        for (int i = 0; i < length; i++) {
            Call call = calls.next();
            int source = model.told(7);
            int got = call.on(real);
            int want = call.on(model);
            Check.due("seed " + seed + ", call " + i + ": " + call.text(), got, want);
            answers.merge(got, 1, Integer::sum);
            made.add(call);
            boolean refused = got <= -1 && got >= -4;
            boolean endedFile = source != model.told(7);
            if (!refused || endedFile) {
                kept.add(call);
                keptAnswers.add(got);
            }
        }
    }

    private void runWithoutRefusals() {
        Machine other = new Machine(version);
        for (int i = 0; i < kept.size(); i++) {
            Check.due("seed " + seed + " without refusals: " + kept.get(i).text(), kept.get(i).on(other),
                keptAnswers.get(i));
        }
    }

    private void compareSights() {
        Map<String, Object> want = Sight.of(real.callsLeft(), this::modelAgain);
        Map<String, Object> got = real.sight();
        for (String name : want.keySet()) {
            Check.due("seed " + seed + " behind its calls: " + name, got.get(name), want.get(name));
        }
    }

    private Streams modelAgain() {
        Model other = new Model(version);
        for (Call call : made) {
            call.on(other);
        }
        return other;
    }
}
