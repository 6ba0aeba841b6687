/** Promises 1 to 6: a new object, person, of, type, close, count. */
public final class PeopleTest {
    private static final Check check = new Check("PeopleTest");

    private static void newObject() {
        KeyedFeelings x = new KeyedFeelings();
        int[] counts = {0, 0, 0, 0, 0, 0, 1, 0};
        for (int what = 0; what < counts.length; what++) {
            check.due("new: count(" + what + ")", x.count(what), counts[what]);
        }
        check.due("new: of(0, 0)", x.of(0, 0), -1);
        check.due("new: undo()", x.undo(), -4);
        check.due("new: restore()", x.restore(), -4);
        check.due("new: seed(9)", x.seed(9), 1);
        for (int sheet = 0; sheet < 4; sheet++) {
            check.due("new: drop(" + sheet + ")", x.drop(sheet), -11);
        }
        check.due("new: close()", x.close(), -20);
    }

    private static void person() {
        KeyedFeelings x = new KeyedFeelings();
        int[][] bad = {{-1, 0}, {5, 0}, {0, -1}, {0, 31}};
        for (int[] each : bad) {
            check.due("person bad", x.person(each[0], each[1]), -1);
        }
        x.hours(3);
        x.seed(77);
        check.due("undo known", x.count(7), 3);
        for (int kind = 0; kind < 5; kind++) {
            check.due("person", x.person(kind, kind == 4 ? 30 : kind), kind);
        }
        check.due("one more leaves nothing to be undone", x.count(7), 0);
        check.due("the hour stays", x.count(1), 3);
        check.due("the draw stays", x.seed(1), 77);
        for (int kind = 0; kind < 5; kind++) {
            check.due("kind", x.of(kind, 0), kind);
            check.due("turns", x.of(kind, 1), kind == 4 ? 30 : kind);
            check.due("winds", x.of(kind, 2), -4);
            check.due("key", x.of(kind, 3), 1);
            check.due("wound by", x.of(kind, 5), 0);
        }
        check.due("a sixth", x.person(0, 7), 5);
        x.hours(1);
        check.due("a seventh", x.person(0, 7), -3);
        check.due("what is refused changes nothing", x.count(7), 1);
        check.due("bad is named first", x.person(5, 7), -1);
        check.due("count", x.count(0), 6);
    }

    /** What one runs off by kind in the hours 0 to 5, by himself, as told none. */
    private static void runs() {
        int[][] alone = {{1, 1, 1, 1, 1, 1}, {2, 1, 2, 1, 2, 1}, {0, 1, 1, 0, 1, 1}, {2, 1, 2, 1, 2, 1},
            {0, 2, 2, 0, 2, 2}};
        for (int hour = 0; hour < 6; hour++) {
            KeyedFeelings x = new KeyedFeelings();
            if (hour > 0) {
                x.hours(hour);
            }
            for (int kind = 0; kind < 5; kind++) {
                x.person(kind, 9);
                check.due("runs off, kind " + kind + " in hour " + hour, x.of(kind, 4), alone[kind][hour]);
            }
            x.person(0, 0);
            check.due("stopped", x.of(5, 4), 0);
            x.tell(3, 0);
            check.due("pity of one who runs", x.of(3, 4), alone[3][hour]);
            x.tell(3, 5);
            check.due("pity of a stopped one", x.of(3, 4), alone[3][hour] + 2);
            x.tell(1, 5);
            check.due("concern has no pity", x.of(1, 4), alone[1][hour]);
            x.tell(5, 4);
            check.due("lone, wound by a stopped one", x.of(4, 4), alone[2][hour]);
            x.tell(5, 2);
            check.due("tender, wound", x.of(2, 4), alone[2][hour]);
        }
        KeyedFeelings x = Check.of("c1, l1");
        check.due("more than there are", x.of(0, 4), 2);
    }

    private static void of() {
        KeyedFeelings x = Check.of("g5>1:12,c0>2:3,t30>1:1");
        int[][] due = {{0, 5, 1, 12, 1, 0}, {1, 0, 2, 3, 0, 5}, {2, 30, 1, 1, 0, 2}};
        for (int person = 0; person < 3; person++) {
            for (int what = 0; what < 6; what++) {
                check.due("of(" + person + ", " + what + ")", x.of(person, what), due[person][what]);
            }
        }
        int[][] bad = {{-1, 0}, {3, 0}, {0, -1}, {0, 6}, {-4, 0}};
        for (int[] each : bad) {
            check.due("of bad", x.of(each[0], each[1]), -1);
        }
    }

    private static void type() {
        KeyedFeelings x = new KeyedFeelings();
        check.due("type(31)", x.type(31), -1);
        check.due("type(127)", x.type(127), -1);
        check.due("type(-7)", x.type(-7), -1);
        for (int each = 1; each <= 60; each++) {
            check.due("type", x.type(each % 2 == 0 ? 32 : 126), each);
        }
        check.due("type, full", x.type(103), -3);
        check.due("type, bad first", x.type(31), -1);
        check.due("close", x.close(), -20);
        check.due("type, empty again", x.type(103), 1);
        for (int each = 2; each <= 60; each++) {
            x.type(32);
        }
        check.due("close, all blank behind", x.close(), -80);
    }

    private static void text(String text, int due) {
        KeyedFeelings x = new KeyedFeelings();
        x.person(3, 13);
        x.hours(2);
        x.seed(5);
        x.then(9);
        check.due("close of '" + text + "'", Check.close(x, text), due);
        check.due("hour behind '" + text + "'", x.count(1), due < 0 ? 2 : 0);
        check.due("known behind '" + text + "'", x.count(7), due < 0 ? 2 : 0);
        check.due("draw behind '" + text + "'", x.seed(1), 5);
        check.due("people behind '" + text + "'", x.count(0), due < 0 ? 1 : due);
        check.due("kind behind '" + text + "'", due < 0 ? x.of(0, 0) : 3, 3);
        check.due("the tape is empty behind '" + text + "'", x.type(32), 1);
    }

    private static void texts() {
        text("g0", 1);
        text("g30", 1);
        text("g05", 1);
        text(" g 3 , c 4 > 0 : 12 ", 2);
        text("g1>5:1,c1,t1,p1,l1,g1>0:01", 6);
        text("g1,g1,g1,g1,g1,g1,g1", -37);
        text("g1,g1,g1,g1,g1,g1 ,", -38);
        text("g1,g1,g1,g1,g1,g1x", -37);
        text("", -20);
        text("   ", -23);
        text("G1", -20);
        text("  x", -22);
        text("g", -21);
        text("g ", -22);
        text("gx", -21);
        text("g31", -21);
        text("g  31", -23);
        text("g300", -23);
        text("g310", -21);
        text("g3 0", -23);
        text("g3 ,", -24);
        text("g3,,", -23);
        text("g3 c4", -23);
        text("g3>0:1", -23);
        text("g3>6:1", -23);
        text("g3>-1", -23);
        text("g3>1", -24);
        text("g3>1 ", -25);
        text("g3>12:1", -24);
        text("g3>1;1", -24);
        text("g3>1:", -25);
        text("g3>1:0,c1", -25);
        text("g3>1:00,c1", -25);
        text("g3>1:13,c1", -25);
        text("g3>1: 13,c1", -26);
        text("g3>1:121,c1", -27);
        text("g3>1:1 2,c1", -27);
        text("g3:1", -22);
        text("g3>1:1", -26);
        text("g3>1:1  ", -28);
        text("g3>2:1,c1", -29);
        text("g3>2:1,c1,x", -30);
        text("g3>1:1>0:1,c1", -26);
        text("c1,g3>1:1", -26);
    }

    private static void closeInPlaceOfAll() {
        KeyedFeelings x = Check.of("p1>1:2,l2>0:3,g4>1:5");
        Check.close(x, "t7,c8");
        int[][] due = {{2, 7, -4, 1}, {1, 8, -4, 1}};
        for (int person = 0; person < 2; person++) {
            for (int what = 0; what < 4; what++) {
                check.due("of behind a close in place", x.of(person, what), due[person][what]);
            }
        }
        check.due("no third", x.of(2, 0), -1);
    }

    private static void count() {
        KeyedFeelings x = Check.of("g1>1:1,g0>2:1,g30>1:1,g4>0:1,g0>3:2,g2");
        int[] due = {6, 0, 18, 37, 6, 2, 1, 0};
        for (int what = 0; what < due.length; what++) {
            check.due("count(" + what + ")", x.count(what), due[what]);
        }
        check.due("count(8)", x.count(8), -1);
        check.due("count(-1)", x.count(-1), -1);
        for (int hour = 1; hour <= 24; hour++) {
            x.hours(1);
            check.due("hour", x.count(1), hour);
            check.due("winding in hour " + hour, x.count(6), hour % 8 == 0 ? 1 : 0);
            check.due("known", x.count(7), Math.min(8, hour));
        }
        check.due("the first without", Check.of("g1>1:1,g1").count(5), 1);
        check.due("a ring of six", Check.of("g1>1:1,g1>2:1,g1>3:1,g1>4:1,g1>5:1,g1>0:1").count(4), 63);
        check.due("two rings", Check.of("g1>1:1,g1>0:1,g1>3:1,g1>4:1,g1>2:1,g1>2:1").count(4), 31);
    }

    public static void main(String[] args) {
        newObject();
        person();
        runs();
        of();
        type();
        texts();
        closeInPlaceOfAll();
        count();
        check.end();
    }
}
