import java.util.Random;

/**
 * Calls with some arguments, right and wrong ones: of one kind more often than of the others, so
 * that runs come upon what many calls of a kind lead to.
 */
final class SomeCalls {
    private static final int KINDS = 24;
    private static final int[] EDGES = {Integer.MIN_VALUE, Integer.MIN_VALUE + 1, -2000, -10, -9, -2, -1, 0, 1, 2, 3,
        4, 5, 6, 9, 10, 13, 16, 17, 40, 41, 60, 99, 100, 126, 127, 199, 200, 255, 256, 399, 400, 401, 1600, 1998,
        1999, 2000, 2001, 65535, 65536, Integer.MAX_VALUE - 1, Integer.MAX_VALUE};

    private final Random random;
    private final int favourite;

    SomeCalls(Random random) {
        this.random = random;
        favourite = random.nextInt(KINDS);
    }

    Call next() {
        return some(random.nextInt(3) == 0 ? favourite : random.nextInt(KINDS));
    }

    /** A number of least to most, but now and then one from anywhere. */
    private int some(int least, int most) {
        if (random.nextInt(12) == 0) {
            return EDGES[random.nextInt(EDGES.length)];
        }
        return least + random.nextInt(most - least + 1);
    }

    private int someSign() {
        return random.nextInt(5) == 0 ? 13 : some(32, 126);
    }

    private int someName() {
        return random.nextInt(6) == 0 ? -9 : some(0, 5);
    }

    private Call some(int which) {
        boolean on = random.nextInt(3) > 0;
        if (which < 8) {
            return someOfStreams(which, on);
        }
        return which < 15 ? someOfFiles(which) : someOther(which, on);
    }

    private Call someOfStreams(int which, boolean on) {
        int a = some(1, 4);
        int place = some(0, random.nextBoolean() ? 40 : 2000);
        int c = someSign();
        int i = some(0, 17);
        int what = some(0, 1);
        int ago = some(0, 101);
        return switch (which) {
            case 0 -> new Call("choose " + a + " " + on + " " + place, x -> x.choose(a, on, place));
            case 1, 2 -> new Call("sign " + c, x -> x.sign(c));
            case 3 -> new Call("depth", x -> x.depth());
            case 4 -> new Call("table " + i + " " + what, x -> x.table(i, what));
            case 5 -> new Call("shown " + ago, x -> x.shown(ago));
            case 6 -> new Call("transcript " + on, x -> x.transcript(on));
            default -> new Call("peek " + place, x -> x.peek(place));
        };
    }

    private Call someOfFiles(int which) {
        int place = some(0, random.nextBoolean() ? 40 : 2000);
        int v = some(0, 255);
        int name = someName();
        int what = some(0, 1);
        int i = some(0, 20);
        int n = some(0, random.nextBoolean() ? 10 : 405);
        return switch (which) {
            case 8 -> new Call("poke " + place + " " + v, x -> x.poke(place, v));
            case 9 -> new Call("answer " + name, x -> x.answer(name));
            case 10 -> new Call("fileOf " + name + " " + what, x -> x.fileOf(name, what));
            case 11 -> new Call("byteOf " + name + " " + i, x -> x.byteOf(name, i));
            case 12 -> new Call("drop " + name, x -> x.drop(name));
            case 13 -> new Call("save " + place + " " + n, x -> x.save(place, n));
            default -> new Call("load " + place + " " + n, x -> x.load(place, n));
        };
    }

    private Call someOther(int which, boolean on) {
        int c = someSign();
        int most = some(1, random.nextBoolean() ? 4 : 40);
        int i = some(0, 12);
        int number = some(1, 9);
        int effect = some(1, 4);
        int turns = random.nextInt(9) == 0 ? 255 : some(0, 4);
        int routine = some(0, 3);
        int what = some(0, 1);
        boolean toldOrSounds = random.nextBoolean();
        return switch (which) {
            case 15, 16 -> new Call("type " + c, x -> x.type(c));
            case 17 -> new Call("source " + on, x -> x.source(on));
            case 18 -> new Call("line " + most, x -> x.line(most));
            case 19 -> new Call("lineAt " + i, x -> x.lineAt(i));
            case 20 -> new Call("sound " + number + " " + effect + " " + turns + " " + routine,
                x -> x.sound(number, effect, turns, routine));
            case 21 -> new Call("ended", x -> x.ended());
            case 22 -> new Call("order " + i + " " + what, x -> x.order(i, what));
            default -> toldOrSounds ? new Call("told " + i, x -> x.told(i)) : new Call("sounds " + i, x -> x.sounds(i));
        };
    }
}
