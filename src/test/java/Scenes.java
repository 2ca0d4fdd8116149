/** Machines in the middle of things, on which refused calls are tried. */
final class Scenes {
    private Scenes() {
    }

    /** Every part of it holds something; there is room for more everywhere. */
    static Machine busy() {
        Machine x = new Machine(5);
        Check.writeText(x, 3, "one/two/three");
        x.answer(3);
        x.source(true);
        x.line(40);
        x.poke(5, 77);
        Check.writePart(x, 1, 0, 10);
        x.answer(0);
        x.choose(2, true, 0);
        Check.sign(x, "ab");
        x.answer(2);
        x.choose(4, true, 0);
        x.choose(3, true, 100);
        Check.sign(x, "cd");
        x.choose(3, true, 200);
        Check.sign(x, "e");
        Check.type(x, "xy/z");
        x.answer(1);
        x.answer(-9);
        x.answer(4);
        x.sound(5, 2, 3, 900);
        x.sound(6, 1, 0, 0);
        return x;
    }

    /** Nothing more may wait, and no table more may be opened. */
    static Machine full() {
        Machine x = new Machine(5);
        for (int i = 0; i < 8; i++) {
            x.answer(i % 6);
        }
        for (int i = 0; i < 60; i++) {
            x.type(i % 7 == 6 ? 13 : 97 + i % 26);
        }
        for (int i = 0; i < 16; i++) {
            x.choose(3, true, 100 * i);
        }
        return x;
    }

    /** TRANSCRIPT is on, and its file is full: ten times a line of 39 signs and its end. */
    static Machine fullTranscript(int name) {
        Machine x = new Machine(5);
        Check.writeText(x, 5, "012345678901234567890123456789012345678");
        x.answer(name);
        x.choose(2, true, 0);
        for (int i = 0; i < 10; i++) {
            x.answer(5);
            x.source(true);
            x.line(40);
        }
        x.source(false);
        return x;
    }
}
