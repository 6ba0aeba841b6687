/** Promises 26 and 27: image, restore. */
public final class ImageTest {
    private static final Check check = new Check("ImageTest");

    private static void asKept(String when, KeyedFeelings x) {
        int[][] due = {{3, 9, 1, 5}, {4, 6, -4, 1}};
        for (int person = 0; person < 2; person++) {
            for (int what = 0; what < 4; what++) {
                check.due(when + ": of(" + person + ", " + what + ")", x.of(person, what), due[person][what]);
            }
        }
        check.due(when + ": people", x.count(0), 2);
        check.due(when + ": hour", x.count(1), 1);
        check.due(when + ": known", x.count(7), 2);
    }

    public static void main(String[] args) {
        KeyedFeelings x = new KeyedFeelings();
        check.due("restore() without an image", x.restore(), -4);
        Check.close(x, "p8>1:5,l1");
        x.seed(99);
        x.hours(1);
        x.lend(0, 3);
        x.type('g');
        x.sheet(1, 2, 7);
        check.due("image()", x.image(), 1);
        asKept("behind the image", x);
        x.type('7');
        x.sheet(1, 3, 9);
        x.drift(20);
        x.tell(1, 0);
        x.cut(0, 12);
        check.due("restore()", x.restore(), 1);
        asKept("restored", x);
        check.due("the tape stays as it is", x.type('>'), 3);
        check.due("sheets stay as they are", x.drop(1), 9);
        check.due("the draw is as it was", x.seed(3), 99);
        check.due("undo()", x.undo(), 1);
        check.due("the lending is undone", x.of(0, 1), 6);
        check.due("undo()", x.undo(), 0);
        check.due("the hour is undone", x.count(1), 0);
        check.due("the hour is undone", x.of(0, 1), 8);
        x.close();
        Check.close(x, "g1,g2,g3");
        check.due("restore() once more", x.restore(), 1);
        asKept("restored over a close", x);
        x.person(0, 0);
        check.due("image() anew", x.image(), 1);
        x.hours(8);
        x.restore();
        check.due("people of the newer image", x.count(0), 3);
        check.due("hour of the newer image", x.count(1), 1);
        check.due("nothing known in it", x.undo(), -4);
        KeyedFeelings empty = new KeyedFeelings();
        empty.image();
        empty.person(0, 3);
        check.due("restore() of an empty close", empty.restore(), 1);
        check.due("nobody", empty.count(0), 0);
        check.end();
    }
}
