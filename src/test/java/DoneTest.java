/** Promises 7 to 13: hours, lend, tell, cut, drift, undo, seed. */
public final class DoneTest {
    private static final Check check = new Check("DoneTest");

    private static void turns(String what, KeyedFeelings x, int... due) {
        for (int person = 0; person < due.length; person++) {
            check.due(what + ": turns of " + person, x.of(person, 1), due[person]);
        }
    }

    private static void hours() {
        KeyedFeelings x = Check.of("g3>1:12,g0>2:5,g0,g29>0:4");
        check.due("hours(1)", x.hours(1), 4);
        turns("wound by how all is ahead of it", x, 6, 11, 0, 28);
        check.due("hours(7)", x.hours(7), 5);
        turns("no winding in hours 1 to 7", x, 0, 4, 0, 21);
        check.due("hours(1), of 8", x.hours(1), 0);
        turns("who was stopped does not wind", x, 3, 3, 4, 20);

        KeyedFeelings capped = Check.of("g25>2:3,g20>2:12,g28>0:12");
        capped.hours(1);
        turns("30 at most, of all together", capped, 29, 19, 29);

        KeyedFeelings pity = Check.of("p9>1:1,g0,p9>1:1,p9>4:1,c1");
        check.due("pity: hours(1)", pity.hours(1), 16);
        turns("run by how all is behind the winding", pity, 7, 1, 7, 7, 0);
        check.due("pity: hours(1)", pity.hours(1), 16 + 2);
        turns("the stopped one is pitied", pity, 6, 0, 6, 4, 0);

        KeyedFeelings none = Check.of("c1,p2,l1");
        none.hours(1);
        turns("turns 0 at least", none, 0, 0, 1);
        none.hours(1);
        turns("turns 0 at least", none, 0, 0, 0);

        int[] bad = {0, -1, 49, Integer.MAX_VALUE, Integer.MIN_VALUE};
        for (int n : bad) {
            check.due("hours bad", none.hours(n), -1);
            check.due("drift bad", none.drift(n), -1);
        }
    }

    private static void lastHour() {
        KeyedFeelings x = new KeyedFeelings();
        for (int each = 0; each < 208; each++) {
            x.hours(48);
        }
        check.due("hour", x.count(1), 9984);
        check.due("hours(16)", x.hours(16), -3);
        check.due("drift(16)", x.drift(16), -3);
        check.due("bad ahead of full", x.hours(49), -1);
        check.due("bad ahead of full", x.drift(0), -1);
        check.due("the draw stays", x.seed(1), 1);
        check.due("hours(14)", x.hours(14), 0);
        check.due("drift(2)", x.drift(2), -3);
        check.due("drift(1)", x.drift(1), 0);
        check.due("hour", x.count(1), 9999);
        check.due("hours(1)", x.hours(1), -3);
        x.person(0, 30);
        check.due("foretold beyond the last hour", x.ahead(0, 30), 0);
        check.due("foretold beyond the last hour", x.ahead(0, 29), 1);
    }

    private static void lend() {
        KeyedFeelings x = Check.of("g0,c27");
        check.due("lend(0, 1)", x.lend(0, 1), 1);
        check.due("lend(0, 30)", x.lend(0, 30), 30);
        check.due("lend(0, 1), of 30", x.lend(0, 1), -2);
        check.due("lend(1, 2)", x.lend(1, 2), 29);
        check.due("known", x.count(7), 3);
        int[][] bad = {{2, 1}, {-1, 1}, {0, 0}, {0, 31}, {1, -1}};
        for (int[] each : bad) {
            check.due("lend bad", x.lend(each[0], each[1]), -1);
        }
        check.due("known", x.count(7), 3);
        turns("lent", x, 30, 29);
    }

    private static void tell() {
        KeyedFeelings x = Check.of("g1,g1>0:7,g1");
        check.due("tell(0, 2)", x.tell(0, 2), -4);
        check.due("tell(0, 2)", x.tell(0, 2), -2);
        check.due("tell(1, 2)", x.tell(1, 2), 0);
        check.due("of(2, 5)", x.of(2, 5), 3);
        check.due("tell(1, NONE)", x.tell(1, -4), 2);
        check.due("tell(1, NONE)", x.tell(1, -4), -2);
        check.due("the key stays", x.of(1, 3), 7);
        int[][] bad = {{3, 0}, {-1, 0}, {0, 0}, {0, 3}, {0, -1}, {0, -2}, {0, -3}, {0, -5}, {-4, -4}};
        for (int[] each : bad) {
            check.due("tell bad", x.tell(each[0], each[1]), -1);
        }
        check.due("known", x.count(7), 3);
    }

    private static void cut() {
        KeyedFeelings x = Check.of("g1,g1>0:7");
        check.due("cut(1, 12)", x.cut(1, 12), 7);
        check.due("cut(1, 12)", x.cut(1, 12), -2);
        check.due("cut(0, 1)", x.cut(0, 1), -2);
        check.due("cut(1, 1)", x.cut(1, 1), 12);
        check.due("of(1, 3)", x.of(1, 3), 1);
        int[][] bad = {{2, 1}, {-1, 1}, {0, 0}, {0, 13}};
        for (int[] each : bad) {
            check.due("cut bad", x.cut(each[0], each[1]), -1);
        }
        check.due("known", x.count(7), 2);
    }

    /** The draws by hand: each ahead of its hour, and the one it is lent to. */
    private static void drift() {
        KeyedFeelings x = Check.of("g20,g20,g20,g29,g20");
        long draw = 1;
        int[] due = {20, 20, 20, 29, 20};
        int lent = 0;
        for (int each = 0; each < 40; each++) {
            draw = (draw * 1103515245L + 12345L) % 2147483648L;
            if (draw / 65536 % 4 == 0) {
                int who = (int) (draw / 128 % 5);
                due[who] = Math.min(30, due[who] + 3);
                lent++;
            }
            int stopped = 0;
            for (int person = 0; person < 5; person++) {
                due[person] = Math.max(0, due[person] - 1);
                stopped |= due[person] == 0 ? 1 << person : 0;
            }
            check.due("drift(1)", x.drift(1), stopped);
            turns("drift", x, due);
            check.due("the draw", x.seed((int) draw), draw);
        }
        check.due("some were lent", lent > 3 && lent < 25 ? 1 : 0, 1);
        KeyedFeelings whole = Check.of("g20,g20,g20,g29,g20");
        whole.drift(40);
        turns("drift(40)", whole, due);
        check.due("known", whole.count(7), 8);
        check.due("undo()", whole.undo(), 7);
        check.due("hour", whole.count(1), 39);
        long[] draws = new long[41];
        draws[0] = 1;
        for (int each = 1; each <= 40; each++) {
            draws[each] = (draws[each - 1] * 1103515245L + 12345L) % 2147483648L;
        }
        check.due("the draw is as ahead of it", whole.seed(3), draws[39]);
        check.due("undo()", whole.undo(), 6);
        check.due("whatever was told since", whole.seed(3), draws[38]);
        KeyedFeelings nobody = new KeyedFeelings();
        nobody.drift(1);
        check.due("draws without people", nobody.seed((int) draws[1]), draws[1]);
        nobody.drift(39);
        check.due("draws without people", nobody.seed(0), draws[40]);
        KeyedFeelings alone = Check.of("g0");
        int left = 0;
        for (int each = 1; each <= 40; each++) {
            left = Math.max(0, (draws[each] / 65536 % 4 == 0 ? left + 3 : left) - 1);
            alone.drift(1);
            check.due("one alone is lent", alone.of(0, 1), left);
        }
    }

    private static void undo() {
        KeyedFeelings x = Check.of("g9>1:3,c9,t9");
        check.due("undo(), of a close", x.undo(), -4);
        x.lend(0, 5);
        x.tell(1, 2);
        x.cut(1, 8);
        x.hours(2);
        check.due("known", x.count(7), 5);
        check.due("undo() of an hour", x.undo(), 4);
        check.due("hour", x.count(1), 1);
        check.due("undo() of an hour", x.undo(), 3);
        check.due("hour", x.count(1), 0);
        turns("ahead of the hours", x, 14, 9, 9);
        check.due("key", x.of(1, 3), 8);
        check.due("undo() of a cut", x.undo(), 2);
        check.due("key", x.of(1, 3), 1);
        check.due("winds", x.of(1, 2), 2);
        check.due("undo() of a telling", x.undo(), 1);
        check.due("winds", x.of(1, 2), -4);
        check.due("undo() of a lending", x.undo(), 0);
        turns("ahead of all", x, 9, 9, 9);
        check.due("undo()", x.undo(), -4);

        x.hours(9);
        check.due("8 are known", x.count(7), 8);
        for (int left = 7; left >= 0; left--) {
            check.due("undo()", x.undo(), left);
        }
        check.due("older ones are lost", x.undo(), -4);
        check.due("hour", x.count(1), 1);
        x.hours(3);
        check.due("known anew", x.count(7), 3);
        Check.close(x, "g31");
        check.due("a fault leaves what is known", x.count(7), 3);
        x.person(0, 1);
        check.due("one more leaves nothing", x.undo(), -4);
        x.hours(3);
        Check.close(x, "g30");
        check.due("a close leaves nothing", x.undo(), -4);
    }

    private static void seed() {
        KeyedFeelings x = Check.of("g9");
        check.due("seed(0)", x.seed(0), 1);
        check.due("seed(max)", x.seed(Integer.MAX_VALUE), 0);
        check.due("seed(-1)", x.seed(-1), -1);
        check.due("seed(min)", x.seed(Integer.MIN_VALUE), -1);
        check.due("seed(7)", x.seed(7), Integer.MAX_VALUE);
        check.due("a seed is not to be undone", x.undo(), -4);
        x.hours(1);
        x.seed(8);
        x.undo();
        check.due("the draw comes back", x.seed(0), 7);
        x.seed(Integer.MAX_VALUE);
        x.drift(1);
        check.due("the lowest 31 bits", x.seed(0), (2147483647L * 1103515245L + 12345L) & 2147483647L);
    }

    public static void main(String[] args) {
        hours();
        lastHour();
        lend();
        tell();
        cut();
        drift();
        undo();
        seed();
        check.end();
    }
}
