/** Promises 20 to 22: sound, ended, sounds. */
public final class SoundsTest {
    public static void main(String[] args) {
        refusals();
        bleeps();
        madeReady();
        begun();
        stopped();
        released();
        turns();
        forEver();
        routines();
        soundsAsked();
        Check.end();
    }

    private static void refusals() {
        Machine x = new Machine(5);
        for (int number : new int[] {Check.LEAST, -1, 0, 10, Check.MOST}) {
            Check.due("sound " + number, x.sound(number, 2, 1, 0), Check.UNKNOWN);
            Check.due("unknown ahead of outside " + number, x.sound(number, 0, -1, -1), Check.UNKNOWN);
        }
        for (int number : new int[] {1, 2, 3, 9}) {
            for (int effect : new int[] {Check.LEAST, -1, 0, 5, Check.MOST}) {
                Check.due("effect " + effect, x.sound(number, effect, 1, 0), Check.OUTSIDE);
            }
            for (int turns : new int[] {Check.LEAST, -1, 256, Check.MOST}) {
                Check.due("turns " + turns, x.sound(number, 2, turns, 0), Check.OUTSIDE);
            }
            for (int routine : new int[] {Check.LEAST, -1, 65536, Check.MOST}) {
                Check.due("routine " + routine, x.sound(number, 2, 1, routine), Check.OUTSIDE);
            }
        }
        Check.due("nothing was done", x.told(10), 0);
        Check.due("none plays", x.sounds(0), Check.NONE);
    }

    private static void bleeps() {
        Machine x = new Machine(1);
        x.sound(5, 2, 3, 0);
        for (int effect = 1; effect <= 4; effect++) {
            Check.due("bleep 1", x.sound(1, effect, 255, 65535), 1);
            Check.due("bleep 2", x.sound(2, effect, 0, 0), 1);
        }
        Check.due("what plays goes on", x.sounds(0), 5);
        Check.due("rows", Check.rows(x), "5:5 4:1 4:2 4:1 4:2 4:1 4:2 4:1 4:2");
    }

    private static void madeReady() {
        Machine x = new Machine(5);
        for (int number = 3; number <= 9; number++) {
            Check.due("not ready " + number, x.sounds(number), 0);
            Check.due("prepare " + number, x.sound(number, 1, 7, 7), 1);
            Check.due("again " + number, x.sound(number, 1, 0, 0), 1);
            Check.due("ready " + number, x.sounds(number), 1);
        }
        Check.due("none plays", x.sounds(0), Check.NONE);
        Check.due("no rows", x.told(10), 0);
    }

    private static void begun() {
        Machine x = new Machine(5);
        Check.due("begin", x.sound(3, 2, 0, 0), 1);
        Check.due("plays", x.sounds(0), 3);
        Check.due("0 as 1", x.sounds(1), 1);
        Check.due("no routine", x.sounds(2), 0);
        Check.due("ready", x.sounds(3), 1);
        Check.due("another one", x.sound(9, 2, 254, 65535), 1);
        Check.due("plays", x.sounds(0), 9);
        Check.due("turns", x.sounds(1), 254);
        Check.due("routine", x.sounds(2), 65535);
        Check.due("3 is still ready", x.sounds(3), 1);
        Check.due("the same one", x.sound(9, 2, 2, 0), 1);
        Check.due("turns anew", x.sounds(1), 2);
        Check.due("routine anew", x.sounds(2), 0);
        Check.due("no routine is called by a stop", Check.rows(x), "5:3 6:3 5:9 6:9 5:9");
    }

    private static void stopped() {
        Machine x = new Machine(5);
        Check.due("none plays", x.sound(3, 3, 0, 0), 0);
        x.sound(3, 2, 2, 50);
        Check.due("another one", x.sound(4, 3, 0, 0), 0);
        Check.due("it plays on", x.sounds(0), 3);
        Check.due("stop", x.sound(3, 3, 0, 0), 1);
        Check.due("again", x.sound(3, 3, 0, 0), 0);
        Check.due("none plays", x.sounds(0), Check.NONE);
        Check.due("no turns", x.sounds(1), 0);
        Check.due("no routine", x.sounds(2), 0);
        Check.due("ready", x.sounds(3), 1);
        Check.due("rows", Check.rows(x), "5:3 6:3");
        Check.due("no turn is over", x.ended(), Check.STATE);
    }

    private static void released() {
        Machine x = new Machine(5);
        Check.due("not ready", x.sound(6, 4, 0, 0), 0);
        x.sound(6, 1, 0, 0);
        Check.due("ready", x.sound(6, 4, 0, 0), 1);
        Check.due("no more", x.sounds(6), 0);
        Check.due("no rows", x.told(10), 0);
        x.sound(7, 2, 5, 9);
        x.sound(6, 1, 0, 0);
        Check.due("another one", x.sound(6, 4, 0, 0), 1);
        Check.due("7 plays on", x.sounds(0), 7);
        Check.due("7", x.sound(7, 4, 0, 0), 1);
        Check.due("is stopped", x.sounds(0), Check.NONE);
        Check.due("not ready", x.sounds(7), 0);
        Check.due("rows", Check.rows(x), "5:7 6:7");
    }

    private static void turns() {
        Machine x = new Machine(5);
        Check.due("none plays", x.ended(), Check.STATE);
        x.sound(4, 2, 3, 0);
        for (int left = 2; left >= 1; left--) {
            Check.due("plays on", x.ended(), 0);
            Check.due("left", x.sounds(1), left);
        }
        Check.due("the last turn", x.ended(), 0);
        Check.due("it ends", x.sounds(0), Check.NONE);
        Check.due("ready still", x.sounds(4), 1);
        Check.due("none plays", x.ended(), Check.STATE);
        Check.due("rows", Check.rows(x), "5:4 6:4");
        x.sound(4, 2, 254, 0);
        for (int i = 0; i < 253; i++) {
            x.ended();
        }
        Check.due("one is left", x.sounds(1), 1);
        x.ended();
        Check.due("254 come to an end", x.sounds(0), Check.NONE);
    }

    private static void forEver() {
        Machine x = new Machine(8);
        x.sound(4, 2, 255, 77);
        for (int i = 0; i < 300; i++) {
            Check.due("plays on", x.ended(), 0);
        }
        Check.due("turns", x.sounds(1), 255);
        Check.due("rows", Check.rows(x), "5:4");
    }

    private static void routines() {
        for (int version = 1; version <= 8; version++) {
            Machine x = new Machine(version);
            boolean called = version >= 5;
            x.sound(8, 2, 2, 1234);
            Check.due("routine in version " + version, x.sounds(2), called ? 1234 : 0);
            Check.due("plays on", x.ended(), 0);
            Check.due("ends", x.ended(), called ? 1 : 0);
            Check.due("no routine any more", x.sounds(2), 0);
            Check.due("rows", Check.rows(x), called ? "5:8 6:8 7:1234" : "5:8 6:8");
            Check.due("a wrong routine in version " + version, x.sound(8, 2, 2, 65536), Check.OUTSIDE);
        }
    }

    private static void soundsAsked() {
        Machine x = new Machine(5);
        for (int what : new int[] {Check.LEAST, -1, 10, Check.MOST}) {
            Check.due("sounds " + what, x.sounds(what), Check.OUTSIDE);
        }
        x.sound(3, 1, 0, 0);
        x.sound(9, 2, 4, 6);
        int[] due = {9, 4, 6, 1, 0, 0, 0, 0, 0, 1};
        for (int i = 0; i < due.length; i++) {
            Check.due("sounds " + i, x.sounds(i), due[i]);
        }
    }
}
