import java.util.ArrayList;
import java.util.List;
import java.util.Map;
import java.util.TreeMap;
import java.util.function.Supplier;

/**
 * All that can be seen behind a run of calls. What the looking calls tell is looked at in slices,
 * each on an object made anew, so that none gets more than its 512 calls; what they do not tell
 * (the typed signs, the answers, the rest of the source, whether the screen is on) comes out by
 * using it up on objects made for that.
 */
final class Sight {
    /** How many calls the dearest look makes on one object. */
    static final int CALLS = 123;

    private static final List<Call> LOOKS = looks();

    private Sight() {
    }

    static Map<String, Object> of(int callsLeft, Supplier<Streams> anew) {
        if (callsLeft < CALLS) {
            throw new IllegalStateException("the run is too long to be looked at");
        }
        Map<String, Object> seen = new TreeMap<>();
        for (int from = 0; from < LOOKS.size(); from += callsLeft) {
            Streams x = anew.get();
            for (Call look : LOOKS.subList(from, Math.min(LOOKS.size(), from + callsLeft))) {
                seen.put(look.text(), look.on(x));
            }
        }
        seen.put("typed signs", typedSigns(anew.get()));
        seen.put("answers", answers(anew.get()));
        seen.put("rest of the source", restOfSource(anew.get()));
        seen.put("screen", screen(anew.get()));
        return seen;
    }

    private static List<Call> looks() {
        List<Call> all = new ArrayList<>();
        all.add(new Call("depth", x -> x.depth()));
        for (int n = 0; n < 2000; n++) {
            int i = n;
            all.add(new Call("peek " + i, x -> x.peek(i)));
        }
        for (int n = 0; n < 200; n++) {
            int i = n;
            all.add(new Call("order " + i + " 0", x -> x.order(i, 0)));
            all.add(new Call("order " + i + " 1", x -> x.order(i, 1)));
        }
        for (int n = 0; n < 100; n++) {
            int i = n;
            all.add(new Call("shown " + i, x -> x.shown(i)));
        }
        for (int n = 0; n < 40; n++) {
            int i = n;
            all.add(new Call("lineAt " + i, x -> x.lineAt(i)));
        }
        for (int n = 0; n < 16; n++) {
            int i = n;
            all.add(new Call("table " + i + " 0", x -> x.table(i, 0)));
            all.add(new Call("table " + i + " 1", x -> x.table(i, 1)));
        }
        for (int n = 0; n < 12; n++) {
            int i = n;
            all.add(new Call("told " + i, x -> x.told(i)));
        }
        for (int n = 0; n < 10; n++) {
            int i = n;
            all.add(new Call("sounds " + i, x -> x.sounds(i)));
        }
        for (int name = 0; name < 6; name++) {
            looksAtFile(all, name);
        }
        return all;
    }

    private static void looksAtFile(List<Call> all, int name) {
        all.add(new Call("kind " + name, x -> x.fileOf(name, 0)));
        all.add(new Call("length " + name, x -> x.fileOf(name, 1)));
        for (int n = 0; n < 400; n++) {
            int i = n;
            all.add(new Call("byte " + name + " " + i, x -> x.byteOf(name, i)));
        }
    }

    private static List<Integer> typedSigns(Streams x) {
        List<Integer> seen = new ArrayList<>();
        x.transcript(false);
        x.source(false);
        for (int i = 0; i < 60; i++) {
            seen.add(x.line(1));
            seen.add(x.lineAt(0));
        }
        return seen;
    }

    private static List<Integer> answers(Streams x) {
        List<Integer> seen = new ArrayList<>();
        dropAll(x);
        for (int i = 0; i < 9; i++) {
            seen.add(x.told(5));
            seen.add(x.save(0, 0));
            seen.addAll(dropAll(x));
        }
        return seen;
    }

    private static List<Integer> dropAll(Streams x) {
        List<Integer> were = new ArrayList<>();
        for (int name = 0; name < 6; name++) {
            were.add(x.drop(name));
        }
        return were;
    }

    private static List<Integer> restOfSource(Streams x) {
        List<Integer> seen = new ArrayList<>();
        x.transcript(false);
        for (int i = 0; i < 40; i++) {
            x.line(1);
            if (x.told(7) == -9) {
                return seen;
            }
            seen.add(x.lineAt(0));
        }
        return seen;
    }

    private static List<Integer> screen(Streams x) {
        for (int i = 0; i < 16; i++) {
            x.choose(3, false, 0);
        }
        x.transcript(false);
        return List.of(x.sign(65), x.shown(0));
    }
}
