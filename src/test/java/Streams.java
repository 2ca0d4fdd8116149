/** The calls of the document's face, so that one run can be made on the class and on Model. */
interface Streams {
    int choose(int stream, boolean on, int table);

    int sign(int c);

    int depth();

    int table(int i, int what);

    int shown(int ago);

    int transcript(boolean bit);

    int peek(int at);

    int poke(int at, int v);

    int answer(int name);

    int fileOf(int name, int what);

    int byteOf(int name, int i);

    int drop(int name);

    int save(int from, int n);

    int load(int at, int n);

    int type(int c);

    int source(boolean file);

    int line(int most);

    int lineAt(int i);

    int sound(int number, int effect, int turns, int routine);

    int ended();

    int sounds(int what);

    int order(int i, int what);

    int told(int what);
}
