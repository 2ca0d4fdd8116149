import java.util.Map;

/** The edges that part 4 and promises 20 to 22 name, a test of its own for each sentence. */
public final class EdgesOfSoundsTest {
    private static final String PART = "part 4", SOUND = "promise 20", ENDED = "promise 21", SOUNDS = "promise 22";

    public static void main(String[] args) {
        numbers();
        oneAtATime();
        routinesOfVersions();
        madeReady();
        begins();
        beginsAgain();
        zeroTurns();
        forEver();
        noRoutine();
        stopped();
        stopThatDoesNotPlay();
        released();
        releasedWhenNotReady();
        bleeps();
        unknownSounds();
        effectsOutside();
        turnsOutside();
        routinesOutside();
        turnsThatEnd();
        turnsOfForEver();
        lastTurnWithRoutine();
        lastTurnWithoutRoutine();
        endedState();
        whichPlays();
        turnsLeft();
        routineTold();
        readyTold();
        soundsOutside();
        Check.end();
    }

    // ---- part 4

    private static void numbers() {
        Check.sentence(PART, "SOUNDS are 1 and 2, which are BLEEPS, and 3 to 9.");
        for (int number = 1; number <= 9; number++) {
            Machine x = new Machine(5);
            Check.due("sound " + number, x.sound(number, 2, 1, 0), 1);
            Check.due("its row", Check.rows(x), (number <= 2 ? "4:" : "5:") + number);
            Check.due("what plays", x.sounds(0), number <= 2 ? Check.NONE : number);
        }
        Check.due("sound 0", new Machine(5).sound(0, 2, 1, 0), Check.UNKNOWN);
        Check.due("sound 10", new Machine(5).sound(10, 2, 1, 0), Check.UNKNOWN);
    }

    private static void oneAtATime() {
        Check.sentence(PART, "One plays at a time, with so many TURNS, and a ROUTINE");
        Machine x = new Machine(5);
        x.sound(3, 2, 5, 10);
        x.sound(9, 2, 6, 20);
        Check.due("what plays", x.sounds(0), 9);
        Check.due("its turns", x.sounds(1), 6);
        Check.due("its routine", x.sounds(2), 20);
        Check.due("3 plays no more", x.sound(3, 3, 0, 0), 0);
    }

    private static void routinesOfVersions() {
        Check.sentence(PART, "a ROUTINE (none in versions 1 to 4)");
        for (int version = 1; version <= 8; version++) {
            Machine x = new Machine(version);
            x.sound(3, 2, 1, 65535);
            Check.due("its routine in version " + version, x.sounds(2), version <= 4 ? 0 : 65535);
            Check.due("its end in version " + version, x.ended(), version <= 4 ? 0 : 1);
            Check.due("rows of version " + version, Check.rows(x), version <= 4 ? "5:3 6:3" : "5:3 6:3 7:65535");
        }
    }

    // ---- promise 20

    private static void madeReady() {
        Check.sentence(SOUND, "effect 1: it is made ready: 1.");
        Machine x = new Machine(5);
        x.sound(4, 2, 7, 70);
        Map<String, Object> before = x.sight();
        Check.due("3", x.sound(3, 1, 255, 65535), 1);
        Check.due("it changed", x.changed(before), "sounds 3");
        before = x.sight();
        Check.due("3 again", x.sound(3, 1, 0, 0), 1);
        Check.due("4, which plays", x.sound(4, 1, 0, 0), 1);
        Check.due("they changed", x.changed(before), "");
    }

    private static void begins() {
        Check.sentence(SOUND, "2: what plays is stopped; it is ready, and begins");
        Machine x = new Machine(5);
        Map<String, Object> before = x.sight();
        Check.due("when none plays", x.sound(3, 2, 2, 5), 1);
        Check.due("it changed", x.changed(before),
            "order 0 0, order 0 1, sounds 0, sounds 1, sounds 2, sounds 3, told 10");
        Check.due("when 3 plays", x.sound(4, 2, 2, 5), 1);
        Check.due("3 is ready still, 4 is now", x.sounds(3) * 10 + x.sounds(4), 11);
        Check.due("no routine is called by that", Check.rows(x), "5:3 6:3 5:4");
    }

    private static void beginsAgain() {
        Check.sentence(SOUND, "what plays is stopped; it is ready, and begins, with so many TURNS");
        Machine x = new Machine(5);
        x.sound(3, 2, 9, 5);
        x.ended();
        Check.due("the one that plays", x.sound(3, 2, 4, 6), 1);
        Check.due("turns", x.sounds(1), 4);
        Check.due("routine", x.sounds(2), 6);
        Check.due("rows", Check.rows(x), "5:3 6:3 5:3");
    }

    private static void zeroTurns() {
        Check.sentence(SOUND, "with so many TURNS (0 as 1");
        for (int turns = 0; turns <= 2; turns++) {
            Machine x = new Machine(5);
            x.sound(3, 2, turns, 0);
            Check.due("turns of " + turns, x.sounds(1), Math.max(1, turns));
            x.ended();
            Check.due("plays behind one turn of " + turns, x.sounds(0), turns == 2 ? 3 : Check.NONE);
        }
    }

    private static void forEver() {
        Check.sentence(SOUND, "255: for ever)");
        Machine x = new Machine(5);
        x.sound(3, 2, 255, 7);
        Map<String, Object> before = x.sight();
        for (int i = 0; i < 260; i++) {
            Check.due("turn " + i, x.ended(), 0);
        }
        Check.due("they changed", x.changed(before), "");
        Machine y = new Machine(5);
        y.sound(3, 2, 254, 0);
        for (int i = 0; i < 253; i++) {
            y.ended();
        }
        Check.due("one turn of 254 is left", y.sounds(1), 1);
        y.ended();
        Check.due("none is", y.sounds(0), Check.NONE);
    }

    private static void noRoutine() {
        Check.sentence(SOUND, "and a ROUTINE (0: none): 1");
        Machine x = new Machine(5);
        x.sound(3, 2, 1, 0);
        Check.due("the end", x.ended(), 0);
        Check.due("none was called", Check.rows(x), "5:3 6:3");
        x.sound(3, 2, 1, 1);
        Check.due("the end with routine 1", x.ended(), 1);
        Check.due("it was called", Check.rows(x), "5:3 6:3 5:3 6:3 7:1");
    }

    private static void stopped() {
        Check.sentence(SOUND, "3: it is stopped: 1");
        Machine x = new Machine(5);
        x.sound(3, 2, 255, 7);
        Map<String, Object> before = x.sight();
        Check.due("stop", x.sound(3, 3, 255, 65535), 1);
        Check.due("it changed", x.changed(before), "order 1 0, order 1 1, sounds 0, sounds 1, sounds 2, told 10");
        Check.due("no routine is called", Check.rows(x), "5:3 6:3");
        Check.due("ready still", x.sounds(3), 1);
    }

    private static void stopThatDoesNotPlay() {
        Check.sentence(SOUND, "0: it does not play.");
        Machine x = new Machine(5);
        x.sound(5, 1, 0, 0);
        Map<String, Object> before = x.sight();
        Check.due("none plays", x.sound(3, 3, 0, 0), 0);
        Check.due("one that is ready", x.sound(5, 3, 0, 0), 0);
        Check.due("they changed", x.changed(before), "");
        x.sound(4, 2, 2, 0);
        before = x.sight();
        Check.due("another one plays", x.sound(5, 3, 0, 0), 0);
        Check.due("it changed", x.changed(before), "");
    }

    private static void released() {
        Check.sentence(SOUND, "4: likewise stopped, if it plays; it is ready no more: 1");
        Machine x = new Machine(5);
        x.sound(3, 1, 0, 0);
        x.sound(4, 2, 2, 7);
        Map<String, Object> before = x.sight();
        Check.due("3, which is ready alone", x.sound(3, 4, 0, 0), 1);
        Check.due("it changed", x.changed(before), "sounds 3");
        before = x.sight();
        Check.due("4, which plays", x.sound(4, 4, 0, 0), 1);
        Check.due("it changed", x.changed(before),
            "order 1 0, order 1 1, sounds 0, sounds 1, sounds 2, sounds 4, told 10");
        Check.due("no routine is called", Check.rows(x), "5:4 6:4");
    }

    private static void releasedWhenNotReady() {
        Check.sentence(SOUND, "it is ready no more: 1; 0: it was not.");
        Machine x = new Machine(5);
        x.sound(4, 2, 2, 7);
        Map<String, Object> before = x.sight();
        for (int number : new int[] {3, 5, 9}) {
            Check.due("release " + number, x.sound(number, 4, 0, 0), 0);
        }
        Check.due("they changed", x.changed(before), "");
        x.sound(4, 4, 0, 0);
        Check.due("4 again", x.sound(4, 4, 0, 0), 0);
        x.sound(5, 2, 1, 0);
        x.ended();
        Check.due("one that has ended is ready still", x.sound(5, 4, 0, 0), 1);
    }

    private static void bleeps() {
        Check.sentence(SOUND, "Of BLEEPS, by any effect: a BLEEP, 1.");
        for (int number = 1; number <= 2; number++) {
            for (int effect = 1; effect <= 4; effect++) {
                Machine x = new Machine(5);
                x.sound(4, 2, 2, 7);
                Map<String, Object> before = x.sight();
                Check.due("bleep " + number + " by " + effect, x.sound(number, effect, 9, 9), 1);
                Check.due("it changed", x.changed(before), "order 1 0, order 1 1, told 10");
                Check.due("rows", Check.rows(x), "5:4 4:" + number);
            }
        }
    }

    private static void unknownSounds() {
        Check.sentence(SOUND, "UNKNOWN; OUTSIDE: effect");
        Machine x = Scenes.busy();
        Map<String, Object> before = x.sight();
        for (int number : new int[] {Check.LEAST, -9, -1, 0, 10, 11, 255, Check.MOST}) {
            for (int effect = 0; effect <= 5; effect++) {
                Check.due("sound " + number + " by " + effect, x.sound(number, effect, 1, 1), Check.UNKNOWN);
            }
        }
        Check.due("they changed", x.changed(before), "");
    }

    private static void effectsOutside() {
        Check.sentence(SOUND, "OUTSIDE: effect");
        Machine x = Scenes.busy();
        Map<String, Object> before = x.sight();
        for (int effect : new int[] {Check.LEAST, -1, 0, 5, 6, Check.MOST}) {
            Check.due("effect " + effect, x.sound(5, effect, 1, 1), Check.OUTSIDE);
            Check.due("effect " + effect + " of a bleep", x.sound(1, effect, 1, 1), Check.OUTSIDE);
        }
        Check.due("they changed", x.changed(before), "");
    }

    private static void turnsOutside() {
        Check.sentence(SOUND, "turns (0 .. 255)");
        Machine x = Scenes.busy();
        Map<String, Object> before = x.sight();
        for (int turns : new int[] {Check.LEAST, -1, 256, 257, Check.MOST}) {
            for (int effect = 1; effect <= 4; effect++) {
                Check.due("turns " + turns + " by " + effect, x.sound(5, effect, turns, 1), Check.OUTSIDE);
                Check.due("turns " + turns + " of a bleep", x.sound(2, effect, turns, 1), Check.OUTSIDE);
            }
        }
        Check.due("they changed", x.changed(before), "");
        Check.due("turns 0", x.sound(5, 2, 0, 1), 1);
        Check.due("turns 255", x.sound(5, 2, 255, 1), 1);
    }

    private static void routinesOutside() {
        Check.sentence(SOUND, "routine (0 .. 65535).");
        Machine x = Scenes.busy();
        Map<String, Object> before = x.sight();
        for (int routine : new int[] {Check.LEAST, -1, 65536, 65537, Check.MOST}) {
            for (int effect = 1; effect <= 4; effect++) {
                Check.due("routine " + routine + " by " + effect, x.sound(5, effect, 1, routine), Check.OUTSIDE);
                Check.due("routine " + routine + " of a bleep", x.sound(2, effect, 1, routine), Check.OUTSIDE);
            }
        }
        Check.due("they changed", x.changed(before), "");
        Check.due("routine 0", x.sound(5, 2, 1, 0), 1);
        Check.due("routine 65535", x.sound(5, 2, 1, 65535), 1);
        Check.due("it is told whole", x.sounds(2), 65535);
        Check.due("out of bounds in version 4, too", new Machine(4).sound(5, 2, 1, 65536), Check.OUTSIDE);
    }

    // ---- promise 21

    private static void turnsThatEnd() {
        Check.sentence(ENDED, "0: it plays on");
        Machine x = new Machine(5);
        x.sound(6, 2, 3, 9);
        Map<String, Object> before = x.sight();
        Check.due("the first of 3", x.ended(), 0);
        Check.due("it changed", x.changed(before), "sounds 1");
        Check.due("left", x.sounds(1), 2);
        Check.due("the second", x.ended(), 0);
        Check.due("left", x.sounds(1), 1);
        Check.due("the last", x.ended(), 1);
    }

    private static void turnsOfForEver() {
        Check.sentence(ENDED, "A TURN of what plays is over (of 255: none)");
        Machine x = new Machine(5);
        x.sound(6, 2, 255, 9);
        Map<String, Object> before = x.sight();
        Check.due("a turn", x.ended(), 0);
        Check.due("it changed", x.changed(before), "");
        Check.due("left", x.sounds(1), 255);
    }

    private static void lastTurnWithRoutine() {
        Check.sentence(ENDED, "when that was the last one it ends, and its ROUTINE, if it has one, is called: 1");
        for (int routine : new int[] {1, 65535}) {
            Machine x = new Machine(5);
            x.sound(6, 2, 1, routine);
            Map<String, Object> before = x.sight();
            Check.due("the last turn", x.ended(), 1);
            Check.due("it changed", x.changed(before),
                "order 1 0, order 1 1, order 2 0, order 2 1, sounds 0, sounds 1, sounds 2, told 10");
            Check.due("rows", Check.rows(x), "5:6 6:6 7:" + routine);
            Check.due("ready still", x.sounds(6), 1);
        }
    }

    private static void lastTurnWithoutRoutine() {
        Check.sentence(ENDED, "is called: 1, else 0.");
        Machine x = new Machine(5);
        x.sound(6, 2, 1, 0);
        Check.due("the last turn", x.ended(), 0);
        Check.due("it has ended", x.sounds(0), Check.NONE);
        Check.due("rows", Check.rows(x), "5:6 6:6");
    }

    private static void endedState() {
        Check.sentence(ENDED, "STATE: none plays.");
        Machine x = new Machine(5);
        Check.due("none ever played", x.ended(), Check.STATE);
        x.sound(1, 2, 9, 9);
        Check.due("a bleep is over at once", x.ended(), Check.STATE);
        x.sound(3, 1, 9, 9);
        Check.due("one is ready alone", x.ended(), Check.STATE);
        x.sound(3, 2, 1, 9);
        x.ended();
        Map<String, Object> before = x.sight();
        Check.due("it has ended", x.ended(), Check.STATE);
        Check.due("it changed", x.changed(before), "");
        x.sound(3, 2, 9, 9);
        x.sound(3, 3, 0, 0);
        Check.due("it was stopped", x.ended(), Check.STATE);
        x.sound(3, 2, 9, 9);
        x.sound(3, 4, 0, 0);
        Check.due("it was stopped by effect 4", x.ended(), Check.STATE);
    }

    // ---- promise 22

    private static void whichPlays() {
        Check.sentence(SOUNDS, "What = 0 which sound plays (NONE)");
        Machine x = new Machine(5);
        Check.due("none", x.sounds(0), Check.NONE);
        x.sound(9, 2, 1, 0);
        Check.due("9", x.sounds(0), 9);
        x.ended();
        Check.due("none again", x.sounds(0), Check.NONE);
    }

    private static void turnsLeft() {
        Check.sentence(SOUNDS, "1 its TURNS that are left (0)");
        Machine x = new Machine(5);
        Check.due("none plays", x.sounds(1), 0);
        x.sound(9, 2, 255, 0);
        Check.due("for ever", x.sounds(1), 255);
        x.sound(9, 3, 0, 0);
        Check.due("stopped", x.sounds(1), 0);
        x.sound(9, 2, 2, 0);
        x.ended();
        Check.due("one is left", x.sounds(1), 1);
        x.ended();
        Check.due("ended", x.sounds(1), 0);
    }

    private static void routineTold() {
        Check.sentence(SOUNDS, "2 its ROUTINE (0)");
        Machine x = new Machine(5);
        Check.due("none plays", x.sounds(2), 0);
        x.sound(9, 2, 1, 65535);
        Check.due("its routine", x.sounds(2), 65535);
        x.sound(9, 3, 0, 0);
        Check.due("stopped", x.sounds(2), 0);
        x.sound(9, 2, 1, 5);
        x.ended();
        Check.due("ended", x.sounds(2), 0);
    }

    private static void readyTold() {
        Check.sentence(SOUNDS, "3 to 9 whether that sound is ready (1, 0)");
        for (int number = 3; number <= 9; number++) {
            Machine x = new Machine(5);
            Map<String, Object> before = x.sight();
            Check.due("not ready", x.sounds(number), 0);
            x.sound(number, 1, 0, 0);
            Check.due("ready", x.sounds(number), 1);
            Check.due("it alone changed", x.changed(before), "sounds " + number);
            x.sound(number, 4, 0, 0);
            Check.due("ready no more", x.sounds(number), 0);
        }
    }

    private static void soundsOutside() {
        Check.sentence(SOUNDS, "OUTSIDE.");
        Machine x = Scenes.busy();
        for (int what : new int[] {Check.LEAST, -9, -1, 10, 11, Check.MOST}) {
            Check.due("sounds " + what, x.sounds(what), Check.OUTSIDE);
        }
    }
}
