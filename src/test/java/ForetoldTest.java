/** Promises 14 to 25: ahead, then, stops, all, ever, chain, lends, instead, needs, match, again, forget. */
public final class ForetoldTest {
    private static final Check check = new Check("ForetoldTest");

    private static void aheadAndThen() {
        KeyedFeelings x = Check.of("g3>1:12,g0>2:5,g0,g29>0:4");
        int[] hours = {0, 1, 8, 9, 80};
        int[][] due = {{3, 0, 0, 29, 6}, {6, 11, 0, 28, 4}, {0, 4, 0, 21, 5}, {3, 3, 4, 20, 0}, {0, 0, 0, 0, 15}};
        for (int each = 0; each < hours.length; each++) {
            for (int person = 0; person < 4; person++) {
                check.due("ahead(" + person + ", " + hours[each] + ")", x.ahead(person, hours[each]), due[each][person]);
            }
            check.due("then(" + hours[each] + ")", x.then(hours[each]), due[each][4]);
        }
        check.due("nothing is changed", x.count(1), 0);
        check.due("nothing is changed", x.count(3), 32);
        check.due("nothing is to be undone", x.count(7), 0);
        int[][] bad = {{-1, 0}, {4, 0}, {0, -1}, {0, 81}};
        for (int[] each : bad) {
            check.due("ahead bad", x.ahead(each[0], each[1]), -1);
        }
        check.due("then(-1)", x.then(-1), -1);
        check.due("then(81)", x.then(81), -1);
        check.due("then(7) of nobody", new KeyedFeelings().then(7), 0);
    }

    /** A couple of full keys never stops; one lends the other as much as he runs off. */
    private static final String COUPLE = "g9>1:8,g9>0:8";

    private static void stops() {
        KeyedFeelings x = Check.of("g0,g30,c5,t4,l4");
        int[] due = {0, 30, 3, 6, 3};
        for (int person = 0; person < 5; person++) {
            check.due("stops(" + person + ")", x.stops(person), due[person]);
        }
        check.due("stops(5)", x.stops(5), -1);
        check.due("stops(-1)", x.stops(-1), -1);
        check.due("all()", x.all(), 30);
        check.due("ever()", x.ever(), 31);
        KeyedFeelings couple = Check.of(COUPLE + ",t30");
        check.due("stops, never", couple.stops(0), -4);
        check.due("all, never", couple.all(), -4);
        check.due("ever", couple.ever(), 4);
        check.due("stops", couple.stops(2), 45);
        KeyedFeelings back = Check.of("g30,g0>0:12,g8>1:5");
        check.due("one who goes on again has stopped first at 0", back.stops(1), 0);
        check.due("he was stopped behind some", back.ever(), 7);
        check.due("all of nobody", new KeyedFeelings().all(), 0);
        check.due("ever of nobody", new KeyedFeelings().ever(), 0);
    }

    /** Wound every 8 hours by 7: down by one each time, so that 10 turns come to the 80th hour. */
    private static void edgeOfForeseen() {
        KeyedFeelings x = Check.of("g10>1:7,g10>0:7");
        check.due("stops, of 10 turns", x.stops(0), 80);
        check.due("all, of 10 turns", x.all(), 80);
        check.due("ever, of 10 turns", x.ever(), 3);
        check.due("then(79)", x.then(79), 0);
        KeyedFeelings y = Check.of("g11>1:7,g11>0:7");
        check.due("stops, of 11 turns", y.stops(0), -4);
        check.due("all, of 11 turns", y.all(), -4);
        check.due("ever, of 11 turns", y.ever(), 0);
        check.due("then(80)", y.then(80), 0);
        y.hours(7);
        check.due("ever, of one who stops behind 81", y.ever(), 0);
        y.hours(1);
        check.due("ever, of one who stops behind 80", y.ever(), 3);
    }

    private static void chain() {
        KeyedFeelings x = Check.of("g1>1:1,g1>2:1,g1>1:1,g0>0:1,g1>0:1,g1");
        int[] behind = {6, 6, 6, 7, 7, 0};
        int[] heads = {24, 24, 24, 8, 16, 32};
        for (int person = 0; person < 6; person++) {
            check.due("behind of " + person, x.chain(person, 0), behind[person]);
            check.due("heads of " + person, x.chain(person, 1), heads[person]);
        }
        check.due("himself, if nobody winds him", Check.of("g1>1:1,g1").chain(0, 1), 1);
        KeyedFeelings ring = Check.of("g1>1:1,g1>2:1,g1>0:1");
        check.due("behind on a ring", ring.chain(1, 0), 7);
        check.due("no head of a ring", ring.chain(1, 1), 0);
        int[][] bad = {{-1, 0}, {3, 0}, {0, -1}, {0, 2}};
        for (int[] each : bad) {
            check.due("chain bad", ring.chain(each[0], each[1]), -1);
        }
    }

    private static void lends() {
        KeyedFeelings x = Check.of("g30,g2,g4,g3");
        check.due("lends(5, 2, 0)", x.lends(5, 2, 0), 2);
        check.due("lends(5, 2, 1)", x.lends(5, 2, 1), 2);
        check.due("lends(5, 1, 0), all alike: the first, who has 30", x.lends(5, 1, 0), 0);
        check.due("lends(5, 1, 1)", x.lends(5, 1, 1), 3);
        check.due("lends(5, 3, 0)", x.lends(5, 3, 0), 2);
        check.due("lends(5, 4, 0)", x.lends(5, 4, 0), 1);
        check.due("lends(1, 30, 1)", x.lends(1, 30, 1), 0);
        check.due("lends(40, 30, 1)", x.lends(40, 30, 1), 4);
        KeyedFeelings six = Check.of("g1,g1,g1,g1,g1,g1");
        check.due("all six stop", six.lends(40, 1, 0), 0);
        check.due("all six stop", six.lends(40, 1, 1), 6);
        check.due("behind them, not between", Check.of("g1>1:8,g8").lends(8, 1, 1), 1);
        check.due("nothing is lent", x.count(3), 39);
        int[][] bad = {{0, 1, 0}, {41, 1, 0}, {1, 0, 0}, {1, 31, 0}, {1, 1, -1}, {1, 1, 2}};
        for (int[] each : bad) {
            check.due("lends bad", x.lends(each[0], each[1], each[2]), -1);
        }
        KeyedFeelings nobody = new KeyedFeelings();
        check.due("lends of nobody", nobody.lends(1, 1, 0), -4);
        check.due("lends of nobody", nobody.lends(40, 30, 1), -4);
    }

    private static void instead() {
        KeyedFeelings x = Check.of("g20>1:9,g1,g30,g3");
        check.due("instead(0, 4, 0)", x.instead(0, 4, 0), 1);
        check.due("instead(0, 4, 1)", x.instead(0, 4, 1), 1);
        check.due("instead(0, 12, 0), 1 and 3 alike", x.instead(0, 12, 0), 1);
        check.due("instead(0, 12, 1)", x.instead(0, 12, 1), 1);
        check.due("instead(0, 40, 0)", x.instead(0, 40, 0), 2);
        check.due("instead(0, 40, 1)", x.instead(0, 40, 1), 3);
        check.due("none first, of like ones", x.instead(2, 1, 0), -4);
        check.due("none first, of like ones", x.instead(2, 1, 1), 0);
        check.due("the first one", Check.of("g1,g9").instead(1, 1, 0), 0);
        KeyedFeelings himself = Check.of("g1>1:1,g9,g9>0:1");
        check.due("not himself", himself.instead(0, 2, 0), -4);
        check.due("not himself", himself.instead(0, 2, 1), 1);
        check.due("he stays with whom he winds", x.of(0, 2), 1);
        int[][] bad = {{-1, 1, 0}, {4, 1, 0}, {0, 0, 0}, {0, 41, 0}, {0, 1, -1}, {0, 1, 2}};
        for (int[] each : bad) {
            check.due("instead bad", x.instead(each[0], each[1], each[2]), -1);
        }
    }

    private static void needs() {
        KeyedFeelings x = Check.of("g0,c0,t0,l0,g30>5:4,g0");
        int[][] due = {{0, 1, 2}, {0, 29, 30}, {0, 30, -4}, {1, 1, 3}, {1, 2, 4}, {1, 4, 7}, {2, 1, 1}, {2, 2, 2},
            {3, 2, 3}, {5, 3, 1}, {5, 4, 1}, {5, 5, 2}, {5, 40, 25}};
        for (int[] each : due) {
            check.due("needs(" + each[0] + ", " + each[1] + ")", x.needs(each[0], each[1]), each[2]);
        }
        check.due("nothing is changed", x.count(3), 30);
        int[][] bad = {{-1, 1}, {6, 1}, {0, 0}, {0, 41}};
        for (int[] each : bad) {
            check.due("needs bad", x.needs(each[0], each[1]), -1);
        }
    }

    private static void matchOf(String text, int... due) {
        KeyedFeelings x = Check.of(text);
        check.due("match(-1) of " + text, x.match(-1), due[0]);
        for (int person = 1; person < due.length; person++) {
            check.due("match(" + (person - 1) + ") of " + text, x.match(person - 1), due[person]);
        }
        check.due("no such one", x.match(due.length - 1), -1);
        check.due("below -1", x.match(-2), -1);
        check.due("below -1", x.match(-4), -1);
    }

    private static void match() {
        matchOf("g1,g1", 2, 1, 0);
        matchOf("g1>1:1,g1>0:1", 0, 1, 0);
        matchOf("g1>1:1,g1", 1, 1, 0);
        matchOf("g1,g1,g1", 3, 1, 2, 0);
        matchOf("g1>2:1,g1,g1", 2, 2, 0, 1);
        matchOf("g1>2:1,g1>2:1,g1", 2, 1, 2, 0);
        matchOf("g1>1:1,g1>0:1,g1", 2, 1, 2, 0);
        matchOf("g1>1:1,g1>0:1,g1,g1", 2, 1, 0, 3, 2);
        matchOf("g1>5:1,g1>5:1,g1>5:1,g1>5:1,g1>5:1,g1", 5, 1, 0, 3, 2, 5, 4);
        KeyedFeelings alone = Check.of("g1");
        check.due("one alone", alone.match(-1), -4);
        check.due("one alone", alone.match(0), -4);
        check.due("nobody", new KeyedFeelings().match(-1), -4);
        check.due("none is named first", alone.match(1), -4);
        check.due("none is named first", alone.match(-2), -4);
    }

    private static void again() {
        check.due("again of nobody", new KeyedFeelings().again(), 24);
        check.due("again of stopped ones", Check.of("g0>1:1,c0>0:9").again(), 24);
        check.due("again of a couple", Check.of(COUPLE).again(), 24);
        check.due("never", Check.of("g9").again(), -4);
        KeyedFeelings twice = Check.of("c28>4:11,g14,l0>3:7,t4>2:9,p26>1:3");
        twice.hours(34);
        check.due("behind two days", twice.again(), 48);
        twice.then(7);
        check.due("whatever was foretold ahead of it", twice.again(), 48);
        twice.hours(48);
        check.due("behind two days more", twice.again(), 48);
        KeyedFeelings later = Check.of("g30>1:12,g30>0:12");
        check.due("down from 30 at first", later.again(), -4);
        later.hours(8);
        check.due("as it was a day ago", later.again(), 24);
        check.due("nothing is changed", later.count(1), 8);
    }

    private static void forgetOf(KeyedFeelings x, int person, int c, int above, int below) {
        check.due("forget(" + person + ", " + c + ", 0)", x.forget(person, c, 0), above);
        check.due("forget(" + person + ", " + c + ", 1)", x.forget(person, c, 1), below);
    }

    private static void forget() {
        KeyedFeelings x = Check.of("g5>1:2,g0,g5>1:3,g1>2:9,p5>1:1");
        forgetOf(x, 1, 5, 1, 4);
        forgetOf(x, 1, 4, 4, 25);
        forgetOf(x, 1, 0, 0, 1);
        forgetOf(x, 1, 10, 1, 1);
        forgetOf(x, 3, 5, 1, 1);
        forgetOf(x, 0, 5, 0, 1);
        KeyedFeelings one = Check.of("g1>1:1,g1>0:1");
        forgetOf(one, 0, 3, 3, 10);
        forgetOf(one, 0, 4, 2, 5);
        KeyedFeelings two = Check.of("g1>1:1,c1,g9>1:1");
        forgetOf(two, 1, 2, 9, 25);
        KeyedFeelings pity = Check.of("p4>1:2,g0,g5>1:1");
        forgetOf(pity, 0, 5, 1, 4);
        forgetOf(pity, 0, 1, 1, 100);
        KeyedFeelings stopped = Check.of("g0>1:2,g0");
        forgetOf(stopped, 1, 0, 1, 1);
        KeyedFeelings six = Check.of("g1>5:1,g1>5:1,g1>5:1,g1>5:1,g1>5:1,g0>0:1");
        forgetOf(six, 5, 1, 23, 50000);
        one.hours(1);
        one.lend(0, 1);
        forgetOf(one, 0, 10, 0, 1);
        forgetOf(one, 1, 0, 1, 1);
        int[][] bad = {{-1, 0, 0}, {2, 0, 0}, {0, -1, 0}, {0, 11, 0}, {0, 0, -1}, {0, 0, 2}};
        for (int[] each : bad) {
            check.due("forget bad", one.forget(each[0], each[1], each[2]), -1);
        }
    }

    public static void main(String[] args) {
        aheadAndThen();
        stops();
        edgeOfForeseen();
        chain();
        lends();
        instead();
        needs();
        match();
        again();
        forget();
        check.end();
    }
}
