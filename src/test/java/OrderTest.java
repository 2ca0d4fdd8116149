/** Promises 23 and 24: order, told. */
public final class OrderTest {
    public static void main(String[] args) {
        everyKind();
        rowsAsked();
        twoHundred();
        toldAsked();
        Check.end();
    }

    private static void everyKind() {
        Machine x = new Machine(5);
        x.answer(3);
        x.choose(4, true, 0);
        x.choose(3, true, 50);
        x.sign(65);
        x.choose(3, false, 0);
        x.answer(3);
        x.source(true);
        x.line(1);
        x.sound(2, 1, 0, 0);
        x.sound(6, 2, 1, 900);
        x.ended();
        Check.due("rows", Check.rows(x), "0:3 1:3 2:1 0:3 3:3 4:2 5:6 6:6 7:900");
    }

    private static void rowsAsked() {
        Machine x = new Machine(5);
        x.sound(2, 1, 0, 0);
        Check.due("kind", x.order(0, 0), 4);
        Check.due("number", x.order(0, 1), 2);
        for (int i : new int[] {Check.LEAST, -1, 1, 200, Check.MOST}) {
            Check.due("row " + i, x.order(i, 0), Check.UNKNOWN);
            Check.due("unknown ahead of outside " + i, x.order(i, 2), Check.UNKNOWN);
        }
        for (int what : new int[] {Check.LEAST, -1, 2, Check.MOST}) {
            Check.due("what " + what, x.order(0, what), Check.OUTSIDE);
        }
    }

    private static void twoHundred() {
        Machine x = new Machine(5);
        for (int i = 0; i < 199; i++) {
            x.sound(1 + i % 2, 1, 0, 0);
            Check.due("rows", x.told(10), i + 1);
        }
        Check.due("no row 199 yet", x.order(199, 0), Check.UNKNOWN);
        x.answer(4);
        Check.due("row 199 is the last one", x.choose(4, true, 0), 1);
        Check.due("its kind", x.order(199, 0), 0);
        Check.due("its number", x.order(199, 1), 4);
        Check.due("the file was made without a row", x.fileOf(4, 0), 0);
        for (int i = 0; i < 5; i++) {
            x.sound(7, 2, 1, 1);
        }
        Check.due("200 alone", x.told(10), 200);
        Check.due("no row 200", x.order(200, 0), Check.UNKNOWN);
        Check.due("the first stays", x.order(0, 1), 1);
    }

    private static void toldAsked() {
        Machine x = new Machine(6);
        for (int what : new int[] {Check.LEAST, -9, -1, 12, Check.MOST}) {
            Check.due("told " + what, x.told(what), Check.OUTSIDE);
        }
        x.answer(0);
        x.choose(2, true, 0);
        x.answer(1);
        x.choose(4, true, 0);
        Check.sign(x, "abcd");
        Check.type(x, "x/");
        x.line(4);
        x.choose(3, true, 40);
        Check.sign(x, "tab");
        x.choose(3, false, 0);
        x.drop(0);
        x.sign(65);
        x.answer(1);
        x.source(true);
        x.answer(5);
        x.answer(5);
        x.answer(5);
        Check.type(x, "wait");
        int[] due = {7, 6, 3, 2, 1, 3, 4, 1, 0, 1, 6, 6};
        for (int i = 0; i < due.length; i++) {
            Check.due("told " + i, x.told(i), due[i]);
        }
    }
}
