/** Promises 28 to 33: heard, film, sheet, drop, item, copy. */
public final class SheetsTest {
    private static final Check check = new Check("SheetsTest");

    private static void fill(KeyedFeelings x, int sheet, int lane, long... items) {
        x.sheet(sheet, lane, items.length);
        for (int i = 0; i < items.length; i++) {
            x.item(sheet, lane, i, items[i]);
        }
    }

    /** Whether item i is the turns told: one with that many a turn above them, in hour 1, is heard to run so. */
    private static boolean isItem(KeyedFeelings x, int sheet, int lane, int i, int turns) {
        return x.heard(0, sheet, lane, i, 1, 1) == 1 << turns + 1;
    }

    private static KeyedFeelings listener() {
        KeyedFeelings x = Check.of("g30");
        x.hours(1);
        return x;
    }

    private static void heard() {
        KeyedFeelings x = Check.of("g9,g20>0:3,c9");
        fill(x, 0, 2, 11, 10, 9, 8, 7, 6, 5, 4);
        check.due("kinds", x.heard(0, 0, 2, 0, 8, 0), 1);
        check.due("turns", x.heard(0, 0, 2, 0, 8, 1), 1 << 9);
        check.due("keys of him", x.heard(0, 0, 2, 0, 8, 2), 8190);
        check.due("keys of who winds him", x.heard(0, 0, 2, 0, 8, 3), 8);
        check.due("keys of another one", x.heard(0, 0, 2, 0, 8, 4), 8190);
        check.due("from item 1 on", x.heard(0, 0, 2, 1, 7, 1), 1 << 8);
        check.due("of another one", x.heard(2, 0, 2, 0, 1, 0), 0);
        fill(x, 1, 0, 7, 6, 4, 3);
        check.due("kinds of concern", x.heard(2, 1, 0, 0, 4, 0), 2 + 8);
        check.due("turns of concern", x.heard(2, 1, 0, 0, 4, 1), 1 << 9);
        fill(x, 1, 0, 9, 7, 5);
        check.due("kinds, lone", x.heard(2, 1, 0, 0, 3, 0), 16);
        fill(x, 1, 0, 9, 8, 7, 7);
        check.due("kinds, wound by nobody", x.heard(2, 1, 0, 0, 4, 0), 4);
        fill(x, 1, 0, 0);
        check.due("turns behind which he is stopped", x.heard(2, 1, 0, 0, 1, 1), 7);
        fill(x, 1, 3, 11L + (1L << 32));
        check.due("a long is no int", x.heard(0, 1, 3, 0, 1, 1), 0);
        fill(x, 1, 2, 11L + (1L << 32));
        check.due("an int has its lowest bits", x.heard(0, 1, 2, 0, 1, 1), 1 << 9);
        KeyedFeelings tops = Check.of("g30,g30>0:12");
        fill(tops, 0, 0, 29);
        check.due("all turns that come to 30", tops.heard(0, 0, 0, 0, 1, 1), (1 << 30) - (1 << 18) + (1 << 30));
        check.due("all keys", tops.heard(0, 0, 0, 0, 1, 3), 8190);
        check.due("nothing is changed", tops.count(3), 60);
    }

    private static void heardRefused() {
        KeyedFeelings x = Check.of("g9,g20>0:3");
        x.sheet(0, 2, 8);
        int[][] bad = {{-1, 0, 2, 0, 1, 0}, {2, 0, 2, 0, 1, 0}, {0, -1, 2, 0, 1, 0}, {0, 4, 2, 0, 1, 0},
            {0, 0, -1, 0, 1, 0}, {0, 0, 4, 0, 1, 0}, {0, 0, 2, 0, 0, 0}, {0, 0, 2, 0, 9, 0}, {0, 0, 2, 0, 1, -1},
            {0, 0, 2, 0, 1, 4}, {0, 1, 2, 0, 1, 4}};
        for (int[] a : bad) {
            check.due("heard bad", x.heard(a[0], a[1], a[2], a[3], a[4], a[5]), -1);
        }
        check.due("heard, null", x.heard(0, 1, 3, -1, 1, 3), -11);
        check.due("heard, cast", x.heard(0, 0, 3, -1, 1, 3), -12);
        int[][] index = {{-1, 1}, {8, 1}, {1, 8}, {7, 2}, {Integer.MAX_VALUE, 8}, {Integer.MIN_VALUE, 8}};
        for (int[] a : index) {
            check.due("heard, index", x.heard(0, 0, 2, a[0], a[1], 0), -13);
        }
        check.due("heard, the last item", x.heard(0, 0, 2, 7, 1, 1), 0);
        check.due("heard, all items", x.heard(0, 0, 2, 0, 8, 1), 0);
    }

    private static void film() {
        KeyedFeelings x = Check.of("g9,g20>0:3,c9");
        for (int lane = 0; lane < 4; lane++) {
            fill(x, 0, lane, 1, 1, 1, 1, 1, 1);
            check.due("film", x.film(2, 4, 0, lane, 1), 4);
            check.due("the film is heard", x.heard(2, 0, lane, 1, 4, 1), 1 << 9);
            check.due("ahead of the film", x.heard(2, 0, lane, 0, 1, 1), 1 << 3);
            check.due("behind the film", x.heard(2, 0, lane, 5, 1, 1), 1 << 3);
        }
        check.due("nothing is changed", x.count(1), 0);
        x.sheet(1, 1, 24);
        check.due("film of 24", x.film(0, 24, 1, 1, 0), 24);
        for (int hour = 1; hour <= 24; hour++) {
            int turns = x.ahead(0, hour);
            int due = turns == 0 ? 3 : 1 << turns + 1;
            check.due("film item " + hour, x.heard(1, 1, 1, hour - 1, 1, 1), due);
        }
        int[][] bad = {{-1, 1, 1, 1, 0}, {3, 1, 1, 1, 0}, {0, 0, 1, 1, 0}, {0, 25, 1, 1, 0}, {0, 1, -1, 1, 0},
            {0, 1, 4, 1, 0}, {0, 1, 1, -1, 0}, {0, 1, 1, 4, 0}};
        for (int[] a : bad) {
            check.due("film bad", x.film(a[0], a[1], a[2], a[3], a[4]), -1);
        }
        check.due("film, null", x.film(0, 1, 3, 0, -1), -11);
        check.due("film, cast", x.film(0, 1, 1, 0, -1), -12);
        int[][] index = {{24, 1}, {1, -1}, {1, 24}, {8, 17}, {24, Integer.MAX_VALUE}};
        for (int[] a : index) {
            check.due("film, index", x.film(0, a[0], 1, 1, a[1]), -13);
        }
        check.due("film, the last items", x.film(0, 8, 1, 1, 16), 8);
    }

    private static void sheet() {
        KeyedFeelings x = listener();
        check.due("sheet(0, 0, 0)", x.sheet(0, 0, 0), 0);
        check.due("sheet(3, 3, 24)", x.sheet(3, 3, 24), 24);
        int[][] bad = {{-1, 0, 1}, {4, 0, 1}, {0, -1, 1}, {0, 4, 1}, {0, 0, 25}, {4, 0, -1}, {0, 4, -1}};
        for (int[] a : bad) {
            check.due("sheet bad", x.sheet(a[0], a[1], a[2]), -1);
        }
        check.due("sheet, size", x.sheet(3, 1, -1), -14);
        check.due("sheet, size", x.sheet(3, 1, Integer.MIN_VALUE), -14);
        check.due("what is refused changes nothing", x.item(3, 3, 23, 5), 1);
        check.due("put", isItem(x, 3, 3, 23, 5) ? 1 : 0, 1);
        check.due("a new row", x.sheet(3, 3, 24), 24);
        check.due("its items are 0", x.heard(0, 3, 3, 23, 1, 1), 3);
        check.due("drop(3)", x.drop(3), 24);
        check.due("drop(3)", x.drop(3), -11);
        check.due("drop(0)", x.drop(0), 0);
        check.due("drop(-1)", x.drop(-1), -1);
        check.due("drop(4)", x.drop(4), -1);
    }

    private static void item() {
        KeyedFeelings x = listener();
        long[] widths = {1L << 8, 1L << 16, 1L << 32, 0};
        for (int lane = 0; lane < 4; lane++) {
            x.sheet(1, lane, 3);
            check.due("item", x.item(1, lane, 2, 17 + widths[lane] * 5), 1);
            check.due("its lowest bits", isItem(x, 1, lane, 2, 17) ? 1 : 0, 1);
            check.due("the others stay", x.heard(0, 1, lane, 1, 1, 1), 3);
            check.due("item, half as wide", x.item(1, lane, 2, 17 + widths[lane] / 2), 1);
            check.due("it has a sign", isItem(x, 1, lane, 2, 17) ? 1 : 0, lane == 3 ? 1 : 0);
            int[] index = {-1, 3, Integer.MAX_VALUE, Integer.MIN_VALUE};
            for (int i : index) {
                check.due("item, index", x.item(1, lane, i, 1), -13);
            }
            check.due("item, cast", x.item(1, (lane + 1) % 4, 9, 1), -12);
        }
        check.due("item, null", x.item(2, 0, 9, 1), -11);
        int[][] bad = {{-1, 0}, {4, 0}, {1, -1}, {1, 4}, {2, 4}};
        for (int[] a : bad) {
            check.due("item bad", x.item(a[0], a[1], 0, 1), -1);
        }
        x.sheet(0, 2, 0);
        check.due("item of an empty row", x.item(0, 2, 0, 1), -13);
    }

    private static void items(String what, KeyedFeelings x, int sheet, int... due) {
        for (int i = 0; i < due.length; i++) {
            check.due(what + ", item " + i + " is " + due[i], isItem(x, sheet, 1, i, due[i]) ? 1 : 0, 1);
        }
    }

    private static void copy() {
        KeyedFeelings x = listener();
        fill(x, 0, 1, 1, 2, 3, 4, 5);
        fill(x, 1, 1, 6, 7, 8);
        check.due("copy", x.copy(0, 3, 1, 0, 2), 2);
        items("to another", x, 1, 4, 5, 8);
        items("from it", x, 0, 1, 2, 3, 4, 5);
        check.due("copy up", x.copy(0, 0, 0, 1, 4), 4);
        items("as if all were taken ahead", x, 0, 1, 1, 2, 3, 4);
        check.due("copy down", x.copy(0, 1, 0, 0, 4), 4);
        items("as if all were taken ahead", x, 0, 1, 2, 3, 4, 4);
        check.due("copy of none", x.copy(0, 5, 1, 3, 0), 0);
        int[][] index = {{-1, 0, 1}, {0, -1, 1}, {0, 0, -1}, {0, 0, 4}, {5, 0, 1}, {0, 3, 1}, {6, 0, 0}, {0, 4, 0},
            {3, 0, 3}, {0, 1, 3}, {0, 0, Integer.MAX_VALUE}, {Integer.MAX_VALUE, 0, 1}, {0, Integer.MAX_VALUE, 1},
            {1, 1, Integer.MIN_VALUE}, {Integer.MIN_VALUE, 0, 1}};
        for (int[] a : index) {
            check.due("copy, index", x.copy(0, a[0], 1, a[1], a[2]), -13);
        }
        items("what is refused changes nothing", x, 1, 4, 5, 8);
        x.sheet(2, 2, 5);
        check.due("copy, cast", x.copy(0, -1, 2, 0, 1), -12);
        check.due("copy, cast", x.copy(2, 0, 0, 0, 0), -12);
        check.due("copy, null", x.copy(3, -1, 2, 0, 1), -11);
        check.due("copy, null", x.copy(2, 0, 3, 0, 1), -11);
        int[][] bad = {{-1, 0}, {4, 0}, {0, -1}, {0, 4}, {3, 4}};
        for (int[] a : bad) {
            check.due("copy bad", x.copy(a[0], 0, a[1], 0, 1), -1);
        }
    }

    public static void main(String[] args) {
        heard();
        heardRefused();
        film();
        sheet();
        item();
        copy();
        check.end();
    }
}
