import java.util.Random;

/**
 * Rules 7 and 13 of LANGUAGE.md: no call throws in any state, so none does behind the 512th one
 * either, of which the document says nothing; and the same calls give the same answers.
 */
public final class LongRunsTest {
    private static final int RUNS = 40, CALLS = 20_000;

    public static void main(String[] args) {
        for (int seed = 0; seed < RUNS; seed++) {
            run(seed);
        }
        Check.end();
    }

    private static void run(int seed) {
        Random random = new Random(seed);
        SomeCalls calls = new SomeCalls(random);
        int version = random.nextInt(10);
        Machine x = new Machine(version, CALLS);
        Machine y = new Machine(version, CALLS);
        for (int i = 0; i < CALLS; i++) {
            Call call = calls.next();
            String name = "seed " + seed + ", call " + i + ": " + call.text();
            Check.due(name, answerOf(call, x, name), answerOf(call, y, name));
        }
    }

    private static Object answerOf(Call call, Machine x, String name) {
        try {
            return call.on(x);
        } catch (RuntimeException thrown) {
            Check.due(name + " threw", thrown.toString(), "nothing");
            return Check.NONE;
        }
    }
}
