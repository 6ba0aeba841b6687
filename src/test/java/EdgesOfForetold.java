import java.util.List;
import java.util.function.ToIntFunction;

/** Section 2 of the terms, and promises 14 to 25: what is foretold. */
final class EdgesOfForetold {
    /** Down by one in every 8 hours: stopped behind 80 hours for the first time, both. */
    private static final String STOPS_AT_80 = "g10>1:7,g10>0:7";
    private static final String STOPS_AT_88 = "g11>1:7,g11>0:7";
    private static final String NEVER_STOPS = "g9>1:8,g9>0:8";
    private final Edges edges;

    EdgesOfForetold(Edges edges) {
        this.edges = edges;
    }

    void all() {
        nothingIsChanged();
        fromNow();
        ahead();
        then();
        stops();
        allOfThem();
        ever();
        ring();
        behind();
        head();
        lends();
        lendsOfLikeOnes();
        instead();
        insteadOfLikeOnes();
        needs();
        without();
        match();
        matchAlone();
        again();
        forget();
        forgetFraction();
    }

    private static KeyedFeelings stopsAt81() {
        KeyedFeelings x = Check.of(STOPS_AT_88);
        x.hours(7);
        return x;
    }

    private static KeyedFeelings some() {
        KeyedFeelings x = Check.of("g9>1:3,c9,l4>0:12");
        x.seed(99);
        x.drift(9);
        x.image();
        x.lend(1, 4);
        x.type('x');
        Edges.fill(x, 0, 2, 4, 5, 6, 7, 8);
        return x;
    }

    private void nothingIsChanged() {
        edges.says(Edges.TERMS, "FORETOLD from now (nothing is changed)");
        ToIntFunction<KeyedFeelings> all = x -> x.ahead(0, 80) + x.then(80) + x.stops(0) + x.all() + x.ever()
            + x.chain(0, 0) + x.chain(0, 1) + x.lends(40, 30, 0) + x.instead(0, 40, 0) + x.needs(0, 40) + x.match(-1)
            + x.match(0) + x.again() + x.forget(0, 5, 0) + x.heard(0, 0, 2, 0, 1, 0) + x.heard(0, 0, 2, 0, 5, 1)
            + x.heard(0, 0, 2, 0, 5, 4);
        edges.unchanged("all of them", EdgesOfForetold::some, all, all.applyAsInt(some()));
        KeyedFeelings x = Check.of("g9>1:3,c9,l4>0:12");
        all.applyAsInt(x);
        edges.due("nothing is to be undone by it", x.undo(), Edges.NONE);
    }

    /** Whatever was foretold ahead of it, and by whichever hour it is now. */
    private void fromNow() {
        edges.says(Edges.TERMS, "FORETOLD from now");
        List<ToIntFunction<KeyedFeelings>> calls = List.of(x -> x.ahead(0, 5), x -> x.then(12), x -> x.stops(0),
            KeyedFeelings::all, KeyedFeelings::ever, x -> x.chain(0, 1), x -> x.lends(9, 1, 0), x -> x.lends(9, 1, 1),
            x -> x.instead(1, 6, 0), x -> x.instead(1, 6, 1), x -> x.needs(0, 9), x -> x.match(-1), x -> x.match(0),
            KeyedFeelings::again, x -> x.forget(0, 5, 1), x -> x.heard(0, 0, 0, 0, 1, 1));
        int[] due = {1, 3, 6, 9, 3, 1, 1, 1, 0, 0, 10, 2, 1, Edges.NONE, 1, 1 << 6};
        KeyedFeelings x = Check.of("g9,g12");
        Edges.fill(x, 0, 0, 5);
        x.hours(3);
        for (int each = 0; each < due.length; each++) {
            edges.due("call " + each, calls.get(each).applyAsInt(x), due[each]);
            x.then(80);
            edges.due("call " + each + " behind another one", calls.get(each).applyAsInt(x), due[each]);
        }
        edges.due("ever() of who was foretold to be stopped", woken().ever(), 0);
        edges.due("all() of who was foretold to be stopped", woken().all(), Edges.NONE);
        edges.due("stops(0) of who was foretold to be stopped", woken().stops(0), Edges.NONE);
        edges.due("again() of who was foretold to be stopped", woken().again(), 24);
    }

    /** A couple that is stopped for good, as was foretold, till both are lent. */
    private static KeyedFeelings woken() {
        KeyedFeelings x = Check.of("g0>1:8,g0>0:8");
        x.then(80);
        x.lend(0, 9);
        x.lend(1, 9);
        return x;
    }

    private void ahead() {
        edges.says(Edges.TERMS, "behind n HOURS (0 .. 80) TURNS of one; who is STOPPED (a set).");
        KeyedFeelings x = Check.of(STOPS_AT_80);
        edges.due("ahead(0, 0)", x.ahead(0, 0), 10);
        edges.due("ahead(0, 79)", x.ahead(0, 79), 1);
        edges.due("ahead(0, 80)", x.ahead(0, 80), 0);
        edges.due("then(0)", x.then(0), 0);
        edges.due("then(79)", x.then(79), 0);
        edges.due("then(80)", x.then(80), 3);
        edges.says(14, "TURNS behind n HOURS.");
        edges.due("ahead(0, 1)", x.ahead(0, 1), 16);
        edges.due("ahead(1, 8)", x.ahead(1, 8), 9);
        edges.due("beyond the last hour", lastHour().ahead(0, 80), 0);
        edges.due("beyond the last hour", lastHour().ahead(0, 29), 1);
        edges.says(14, "BAD.");
        int[][] bad = {{0, -1}, {0, 81}, {-1, 0}, {2, 0}, {Edges.LEAST, 0}, {Edges.MOST, 0}, {0, Edges.LEAST}, {0, Edges.MOST}};
        for (int[] each : bad) {
            edges.due("ahead(" + each[0] + ", " + each[1] + ")", x.ahead(each[0], each[1]), Edges.BAD);
        }
        edges.due("ahead of nobody", new KeyedFeelings().ahead(0, 0), Edges.BAD);
    }

    private static KeyedFeelings lastHour() {
        KeyedFeelings x = Edges.atHour(9999);
        x.person(0, 30);
        return x;
    }

    private void then() {
        edges.says(15, "Who is STOPPED behind n HOURS (a set).");
        KeyedFeelings x = Check.of("g0,g1,g2,g30,t30,g9");
        edges.due("then(0)", x.then(0), 1);
        edges.due("then(1)", x.then(1), 3);
        edges.due("then(2)", x.then(2), 7);
        edges.due("then(80)", x.then(80), 63);
        edges.due("then(80) of nobody", new KeyedFeelings().then(80), 0);
        edges.due("beyond the last hour", lastHour().then(30), 1);
        edges.says(15, "BAD.");
        int[] bad = {-1, 81, Edges.LEAST, Edges.MOST};
        for (int n : bad) {
            edges.due("then(" + n + ")", x.then(n), Edges.BAD);
            edges.due("then(" + n + ") of nobody", new KeyedFeelings().then(n), Edges.BAD);
        }
    }

    private void stops() {
        edges.says(Edges.TERMS, "STOPS of one: the first of 0 to 80 HOURS behind which he is STOPPED; none.");
        edges.due("behind 0", Check.of("g0").stops(0), 0);
        edges.due("behind 0, though he goes on then", Check.of("g0,g30>0:12").stops(0), 0);
        edges.due("behind 1", Check.of("g1").stops(0), 1);
        edges.due("behind 80", Check.of(STOPS_AT_80).stops(1), 80);
        edges.due("behind 81", stopsAt81().stops(1), Edges.NONE);
        edges.due("never", Check.of(NEVER_STOPS).stops(1), Edges.NONE);
        edges.says(16, "STOPS; NONE.");
        edges.due("the first time, though he goes on then", Check.of("g3,t30>0:2").stops(0), 5);
        edges.due("another one does not matter", Check.of("g0,g7").stops(1), 7);
        edges.due("NONE", Check.of(NEVER_STOPS).stops(0), Edges.NONE);
        edges.says(16, "BAD.");
        int[] bad = {-1, 2, Edges.NONE, Edges.LEAST, Edges.MOST};
        for (int person : bad) {
            edges.due("stops(" + person + ")", Check.of(STOPS_AT_80).stops(person), Edges.BAD);
        }
        edges.due("stops of nobody", new KeyedFeelings().stops(0), Edges.BAD);
    }

    private void allOfThem() {
        edges.says(Edges.TERMS, "ALL: the first of 0 to 80 HOURS behind which all are; none.");
        edges.due("behind 0", Check.of("g0,c0>0:1").all(), 0);
        edges.due("behind 1", Check.of("g0,g1").all(), 1);
        edges.due("behind 80", Check.of(STOPS_AT_80).all(), 80);
        edges.due("behind 81", stopsAt81().all(), Edges.NONE);
        edges.due("all at once, not each at some time", Check.of("g3>1:4,g0").all(), 4);
        edges.says(17, "ALL; NONE.");
        edges.due("all but one", Check.of(NEVER_STOPS + ",g1").all(), Edges.NONE);
        edges.due("nobody", new KeyedFeelings().all(), 0);
    }

    private void ever() {
        edges.says(Edges.TERMS, "EVER: who is STOPPED behind any of 0 to 80 HOURS (a set).");
        edges.due("behind 0 alone", Check.of("g9>1:12,g20>2:12,g0>0:12").ever(), 4);
        edges.due("behind 80", Check.of(STOPS_AT_80).ever(), 3);
        edges.due("behind 81", stopsAt81().ever(), 0);
        edges.due("between", Check.of("g3,t30>0:12,g30>0:12,g30>2:12").ever() & 1, 1);
        edges.says(18, "EVER (a set).");
        edges.due("nobody", new KeyedFeelings().ever(), 0);
        edges.due("all six", Check.of("g1,g2,g3,g4,g5,g6").ever(), 63);
        edges.due("none of two", Check.of(NEVER_STOPS).ever(), 0);
    }

    private void ring() {
        edges.says(Edges.TERMS, "RING: who WINDS round (himself by others, two at least): PEOPLE (a set) on such a ring.");
        edges.due("one alone", Check.of("g1").count(4), 0);
        edges.due("nobody", new KeyedFeelings().count(4), 0);
        edges.due("a row of two", Check.of("g1>1:1,g1").count(4), 0);
        edges.due("two", Check.of("g1>1:1,g1>0:1").count(4), 3);
        edges.due("two who are stopped", Check.of("g0>1:1,g0>0:1").count(4), 3);
        edges.due("who leads to them is not", Check.of("g1>1:1,g1>0:1,g1>0:1").count(4), 3);
        edges.due("a row of six", Check.of("g1>1:1,g1>2:1,g1>3:1,g1>4:1,g1>5:1,g1").count(4), 0);
        edges.due("six", Check.of("g1>1:1,g1>2:1,g1>3:1,g1>4:1,g1>5:1,g1>0:1").count(4), 63);
        edges.due("two and the last of a row to them", Check.of("g1>1:1,g1>2:1,g1>3:1,g1>4:1,g1>5:1,g1>4:1").count(4), 48);
        edges.due("three rings", Check.of("g1>5:1,g1>4:1,g1>3:1,g1>2:1,g1>1:1,g1>0:1").count(4), 63);
    }

    private void behind() {
        edges.says(Edges.TERMS, "BEHIND of one: all whom he WINDS, by others, too (a set; himself, if he is on a ring).");
        KeyedFeelings row = Check.of("g0>1:1,g1>2:1,g1>3:1,g1>4:1,g1>5:1,g1");
        int[] due = {62, 60, 56, 48, 32, 0};
        KeyedFeelings round = Check.of("g1>1:1,g1>2:1,g1>3:1,g1>4:1,g1>5:1,g1>0:1");
        KeyedFeelings tail = Check.of("g1>1:1,g1>2:1,g1>3:1,g1>4:1,g1>5:1,g1>4:1");
        int[] tails = {62, 60, 56, 48, 48, 48};
        for (int person = 0; person < 6; person++) {
            edges.due("in a row, of " + person, row.chain(person, 0), due[person]);
            edges.due("in a ring of six, of " + person, round.chain(person, 0), 63);
            edges.due("by a ring of two, of " + person, tail.chain(person, 0), tails[person]);
        }
        edges.due("in a ring of two", Check.of("g1>1:1,g1>0:1").chain(0, 0), 3);
        edges.due("of one alone", Check.of("g1").chain(0, 0), 0);
        edges.says(19, "BEHIND (what 0), HEAD (1), a set.");
        edges.due("chain(1, 0)", row.chain(1, 0), 60);
        edges.due("chain(1, 1)", row.chain(1, 1), 1);
        edges.says(19, "BAD.");
        int[][] bad = {{-1, 0}, {6, 0}, {0, -1}, {0, 2}, {Edges.LEAST, 0}, {Edges.MOST, 1}, {0, Edges.LEAST}, {0, Edges.MOST}};
        for (int[] each : bad) {
            edges.due("chain(" + each[0] + ", " + each[1] + ")", row.chain(each[0], each[1]), Edges.BAD);
        }
        edges.due("chain of nobody", new KeyedFeelings().chain(0, 0), Edges.BAD);
    }

    private void head() {
        edges.says(Edges.TERMS, "HEAD of one: who, going back from him by who WINDS him, comes to nobody who WINDS one more: all such "
            + "ones (a set; himself, if nobody WINDS him).");
        KeyedFeelings row = Check.of("g1>1:1,g1>2:1,g1>3:1,g1>4:1,g1>5:1,g1");
        KeyedFeelings star = Check.of("g1>5:1,g1>5:1,g1>5:1,g1>5:1,g1>5:1,g1");
        KeyedFeelings round = Check.of("g1>1:1,g1>2:1,g1>3:1,g1>4:1,g1>5:1,g1>0:1");
        for (int person = 0; person < 6; person++) {
            edges.due("in a row, of " + person, row.chain(person, 1), 1);
            edges.due("of many to one, of " + person, star.chain(person, 1), person == 5 ? 31 : 1 << person);
            edges.due("in a ring there is none, of " + person, round.chain(person, 1), 0);
        }
        KeyedFeelings led = Check.of("g1>1:1,g1>0:1,g1>0:1,g0>2:1,g1>1:1,g1");
        int[] due = {24, 24, 8, 8, 16, 32};
        for (int person = 0; person < 6; person++) {
            edges.due("of a ring that is led to, of " + person, led.chain(person, 1), due[person]);
        }
        edges.due("of one alone", Check.of("g1").chain(0, 1), 1);
    }

    private void lends() {
        edges.says(Edges.TERMS, "LEND for n HOURS (1 .. 40), t TURNS (1 .. 30): whom they should be LENT to now, so that fewest are "
            + "STOPPED behind them");
        lendsOf("g2,g1", 1, 1, 1, 0);
        lendsOf("g2,g1", 1, 30, 1, 0);
        lendsOf("g0,t0", 40, 30, 1, 1);
        lendsOf("t0,g0", 40, 30, 0, 1);
        lendsOf("g0,g0", 30, 30, 0, 2);
        lendsOf("c1,g29", 29, 1, 1, 1);
        lendsOf("g29,g0", 30, 30, 0, 2);
        lendsOf("g0>1:12,g0,g9", 20, 12, 0, 2);
        lendsOf("g0,g0>0:12,g9", 20, 12, 1, 2);
        lendsOf("g1", 1, 1, 0, 0);
        lendsOf("g1>1:8,g8", 8, 1, 0, 1);
        edges.says(20, "LEND: who (what 0), how many (1); NONE.");
        lendsOf("g6,g4", 5, 2, 1, 0);
        edges.due("NONE", new KeyedFeelings().lends(5, 2, 0), Edges.NONE);
        edges.says(20, "BAD.");
        int[][] bad = {{0, 1, 0}, {41, 1, 0}, {1, 0, 0}, {1, 31, 0}, {1, 1, -1}, {1, 1, 2}, {Edges.LEAST, 1, 0}, {Edges.MOST, 1, 0},
            {1, Edges.LEAST, 0}, {1, Edges.MOST, 0}, {1, 1, Edges.LEAST}, {1, 1, Edges.MOST}};
        KeyedFeelings x = Check.of("g5,g4");
        for (int[] each : bad) {
            edges.due("lends(" + each[0] + ", " + each[1] + ", " + each[2] + ")", x.lends(each[0], each[1], each[2]), Edges.BAD);
        }
    }

    private void lendsOf(String close, int n, int t, int who, int howMany) {
        edges.due("lends(" + n + ", " + t + ", 0) of " + close, Check.of(close).lends(n, t, 0), who);
        edges.due("lends(" + n + ", " + t + ", 1) of " + close, Check.of(close).lends(n, t, 1), howMany);
    }

    private void lendsOfLikeOnes() {
        edges.says(Edges.TERMS, "of like ones the first: who; how many; none: there are none.");
        lendsOf("g1,g1,g1,g1,g1,g1", 1, 1, 0, 5);
        lendsOf("g1,g1,g1,g1,g1,g1", 40, 1, 0, 6);
        lendsOf("g30,g30,g30,g30,g30,g30", 1, 30, 0, 0);
        lendsOf("g9,g1,g1", 2, 2, 1, 1);
        KeyedFeelings nobody = new KeyedFeelings();
        edges.due("lends(1, 1, 0) of nobody", nobody.lends(1, 1, 0), Edges.NONE);
        edges.due("lends(40, 30, 1) of nobody", nobody.lends(40, 30, 1), Edges.NONE);
    }

    private void insteadOf(String close, int person, int n, int whom, int howMany) {
        String told = "instead(" + person + ", " + n + ", ";
        edges.due(told + "0) of " + close, Check.of(close).instead(person, n, 0), whom);
        edges.due(told + "1) of " + close, Check.of(close).instead(person, n, 1), howMany);
    }

    /** A TENDER one of 30 goes on for 40 hours and winds in 5 of them; 8 each time do not outlast the fortieth. */
    private void instead() {
        edges.says(Edges.TERMS, "INSTEAD for one, n HOURS (1 .. 40): whom he should WIND from now on (or none), so that fewest are "
            + "STOPPED behind them");
        insteadOf("g9,g1,g0", 0, 1, 1, 1);
        insteadOf("g9,g0", 0, 1, Edges.NONE, 1);
        insteadOf("g9,g1,g9", 0, 1, 1, 0);
        insteadOf("t30>2:9,g0,g30", 0, 40, 1, 1);
        insteadOf("t30>2:8,g0,g30", 0, 40, 2, 1);
        insteadOf("t30>1:8,g0", 0, 40, Edges.NONE, 1);
        insteadOf("t30>1:9,g0", 0, 40, 1, 0);
        insteadOf("g9>1:9,g0", 1, 40, Edges.NONE, 2);
        insteadOf("g9,l1", 0, 2, 1, 0);
        insteadOf("g9", 0, 9, Edges.NONE, 1);
        edges.says(21, "INSTEAD: whom (what 0; NONE: none), how many (1).");
        insteadOf("g5,g5,g5,g5,g5,g1", 0, 1, 5, 0);
        insteadOf("g1,g5,g5,g5,g5,g5", 5, 1, 0, 0);
        edges.says(21, "BAD.");
        int[][] bad = {{-1, 1, 0}, {2, 1, 0}, {0, 0, 0}, {0, 41, 0}, {0, 1, -1}, {0, 1, 2}, {Edges.NONE, 1, 0},
            {Edges.LEAST, 1, 0}, {Edges.MOST, 1, 0}, {0, Edges.LEAST, 0}, {0, Edges.MOST, 0}, {0, 1, Edges.LEAST},
            {0, 1, Edges.MOST}};
        KeyedFeelings x = Check.of("g5,g4");
        for (int[] each : bad) {
            edges.due("instead(" + each[0] + ", " + each[1] + ", " + each[2] + ")", x.instead(each[0], each[1], each[2]),
                Edges.BAD);
        }
        edges.due("instead of nobody", new KeyedFeelings().instead(0, 1, 0), Edges.BAD);
    }

    private void insteadOfLikeOnes() {
        edges.says(Edges.TERMS, "of like ones none first, then rising: whom; how many.");
        insteadOf("g9>1:1,g9,g9", 0, 1, Edges.NONE, 0);
        insteadOf("g9>2:1,g1,g1", 0, 1, 1, 1);
        insteadOf("g1,g9>2:1,g1", 1, 1, 0, 1);
        insteadOf("g0,g9>0:1,g0", 1, 1, Edges.NONE, 2);
    }

    private void needs() {
        edges.says(Edges.TERMS, "NEEDS of one, n HOURS (1 .. 40): the least TURNS (0 .. 30) in him now by which he is not STOPPED "
            + "behind any of 0 to n of them; none.");
        needsOf("g0", 1, 2);
        needsOf("g0", 29, 30);
        needsOf("g0", 30, Edges.NONE);
        needsOf("c0", 19, 30);
        needsOf("c0", 20, Edges.NONE);
        needsOf("t0", 1, 1);
        needsOf("t0", 40, 27);
        needsOf("g0,g30>0:12", 1, 1);
        needsOf("g0,g30>0:12", 12, 1);
        needsOf("g0,t30>0:7", 40, 6);
        needsOf("g0,t30>0:7", 39, 5);
        needsOf("g30", 1, 2);
        edges.says(22, "NEEDS; NONE.");
        needsOf("g0", 40, Edges.NONE);
        edges.says(22, "BAD.");
        int[][] bad = {{-1, 1}, {2, 1}, {0, 0}, {0, 41}, {Edges.LEAST, 1}, {Edges.MOST, 1}, {0, Edges.LEAST}, {0, Edges.MOST}};
        KeyedFeelings x = Check.of("g5,g4");
        for (int[] each : bad) {
            edges.due("needs(" + each[0] + ", " + each[1] + ")", x.needs(each[0], each[1]), Edges.BAD);
        }
        edges.due("needs of nobody", new KeyedFeelings().needs(0, 1), Edges.BAD);
    }

    private void needsOf(String close, int n, int due) {
        edges.due("needs(0, " + n + ") of " + close, Check.of(close).needs(0, n), due);
    }

    private void without() {
        edges.says(Edges.TERMS, "WITHOUT: how many are WOUND by nobody.");
        edges.due("of nobody", new KeyedFeelings().count(5), 0);
        edges.due("of one alone", Check.of("g1").count(5), 1);
        edges.due("of six", Check.of("g1,g1,g1,g1,g1,g1").count(5), 6);
        edges.due("of two to one", Check.of("g1>2:1,g1>2:1,g1").count(5), 2);
        edges.due("of a ring", Check.of("g1>1:1,g1>2:1,g1>0:1").count(5), 0);
        edges.due("by one who is stopped", Check.of("g0>1:1,g1>0:1").count(5), 0);
    }

    private void matchOf(String close, int... due) {
        KeyedFeelings x = Check.of(close);
        for (int person = -1; person < due.length - 1; person++) {
            edges.due("match(" + person + ") of " + close, x.match(person), due[person + 1]);
        }
    }

    private void match() {
        edges.says(Edges.TERMS, "MATCH: how many WIND another one at least must be told so that each is WOUND by just one (nobody WINDS "
            + "himself, those who WIND none, too, must then): the fewest changes");
        matchOf("g1>1:1,g1>2:1,g1>3:1,g1>4:1,g1>5:1,g1>0:1", 0);
        matchOf("g1>1:1,g1>2:1,g1>3:1,g1>4:1,g1>5:1,g1", 1);
        matchOf("g1,g1,g1,g1,g1,g1", 6);
        matchOf("g1>1:1,g1", 1);
        matchOf("g1>1:1,g1>0:1,g1", 2);
        matchOf("g1>5:1,g1>5:1,g1>5:1,g1>5:1,g1>5:1,g1", 5);
        edges.says(Edges.TERMS, "the first such telling (whom PEOPLE 0, 1, .. WIND, rising): whom one would WIND; none: there is one "
            + "alone.");
        matchOf("g1,g1", 2, 1, 0);
        matchOf("g1,g1,g1,g1,g1,g1", 6, 1, 0, 3, 2, 5, 4);
        matchOf("g1,g1,g1,g1,g1", 5, 1, 0, 3, 4, 2);
        matchOf("g1>5:1,g1>5:1,g1>5:1,g1>5:1,g1>5:1,g1", 5, 1, 0, 3, 2, 5, 4);
        matchOf("g1>1:1,g1>2:1,g1>3:1,g1>4:1,g1>5:1,g1", 1, 1, 2, 3, 4, 5, 0);
        matchOf("g1>1:1,g1>0:1,g1", 2, 1, 2, 0);
        edges.due("one alone", Check.of("g1").match(0), Edges.NONE);
    }

    private void matchAlone() {
        edges.says(23, "MATCH: the fewest changes (person -1), whom one would WIND; NONE: there is one alone, or nobody.");
        edges.due("match(-1) of two", Check.of("g1,g1").match(-1), 2);
        edges.due("match(0) of two", Check.of("g1,g1").match(0), 1);
        edges.due("match(-1) of one alone", Check.of("g1").match(-1), Edges.NONE);
        edges.due("match(-1) of nobody", new KeyedFeelings().match(-1), Edges.NONE);
        edges.due("match(0) of nobody", new KeyedFeelings().match(0), Edges.NONE);
    }

    /** Rings along which one goes on while the others are stopped, by turns, come round in some days. */
    private void again() {
        edges.says(Edges.TERMS, "AGAIN: behind how many HOURS (1 .. 240, a multiple of 24) TURNS of all are as now at first; none.");
        edges.due("not behind 0, of stopped ones", Check.of("g0>1:1,c0>0:9").again(), 24);
        edges.due("of nobody", new KeyedFeelings().again(), 24);
        edges.due("not behind 8, as they are then", Check.of(NEVER_STOPS).again(), 24);
        edges.due("behind 3 days", Check.of("g0>2:3,l0>2:11,l0>3:7,t3>5:6,l0>2:1,t0>1:9").again(), 72);
        edges.due("behind 4 days", Check.of("c0>1:3,t0>4:10,t0>1:7,l0>5:12,t0>5:9,g1>2:7").again(), 96);
        edges.due("behind 5 days", Check.of("c0>3:9,t0>4:10,t0>1:7,l0>5:12,t0>3:9,g4>2:7").again(), 120);
        edges.due("behind 6 days", Check.of("l0>4:7,t0>2:11,t5>3:7,t0>5:6,l1>0:10,l0>1:10").again(), 144);
        edges.due("none", Check.of("g1").again(), Edges.NONE);
        edges.says(24, "AGAIN; NONE.");
        edges.due("one stopped and one not", Check.of("g0,g30").again(), Edges.NONE);
        KeyedFeelings late = Edges.atHour(9999);
        late.person(0, 0);
        edges.due("beyond the last hour", late.again(), 24);
    }

    private void forgetOf(KeyedFeelings x, int person, int c, int above, int below) {
        edges.due("forget(" + person + ", " + c + ", 0)", x.forget(person, c, 0), above);
        edges.due("forget(" + person + ", " + c + ", 1)", x.forget(person, c, 1), below);
    }

    private void forget() {
        edges.says(Edges.TERMS, "FORGET by c of 10 (0 .. 10): in this HOUR, if it is one of WINDING, each who would WIND forgets by c of "
            + "10, apart: how likely a told one is STOPPED behind it");
        KeyedFeelings two = Check.of("g9>2:1,g9>2:1,g1");
        forgetOf(two, 2, 0, 0, 1);
        forgetOf(two, 2, 1, 1, 100);
        forgetOf(two, 2, 9, 81, 100);
        forgetOf(two, 2, 10, 1, 1);
        forgetOf(Check.of("g0>1:1,g1"), 1, 0, 1, 1);
        forgetOf(Check.of("g0>1:1,g9>2:1,g1"), 2, 3, 3, 10);
        forgetOf(Check.of("g9>1:12,g0"), 1, 10, 1, 1);
        forgetOf(Check.of("g9,l2>0:1"), 1, 10, 0, 1);
        KeyedFeelings later = Check.of("g9>1:12,g9");
        later.hours(1);
        later.lend(1, 1);
        forgetOf(later, 1, 10, 0, 1);
        KeyedFeelings eight = Edges.atHour(8);
        eight.person(0, 1);
        Edges.join(eight, 0, 9, 0, 1);
        forgetOf(eight, 0, 7, 7, 10);
        eight.hours(1);
        forgetOf(eight, 0, 7, 1, 1);
        KeyedFeelings first = Edges.atHour(9);
        first.person(0, 9);
        first.person(0, 1);
        first.tell(0, 1);
        forgetOf(first, 1, 0, 1, 1);
        forgetOf(first, 1, 5, 1, 1);
        KeyedFeelings seven = Edges.atHour(7);
        seven.person(0, 1);
        Edges.join(seven, 0, 9, 0, 1);
        forgetOf(seven, 0, 7, 1, 1);
    }

    private void forgetFraction() {
        edges.says(Edges.TERMS, "a fraction in lowest terms.");
        KeyedFeelings one = Check.of("g9>1:1,g1");
        int[][] due = {{0, 1}, {1, 10}, {1, 5}, {3, 10}, {2, 5}, {1, 2}, {3, 5}, {7, 10}, {4, 5}, {9, 10}, {1, 1}};
        for (int c = 0; c <= 10; c++) {
            forgetOf(one, 1, c, due[c][0], due[c][1]);
        }
        KeyedFeelings six = Check.of("g1>5:1,g1>5:1,g1>5:1,g1>5:1,g1>5:1,g1>0:1");
        forgetOf(six, 5, 1, 1, 100000);
        forgetOf(six, 5, 3, 243, 100000);
        forgetOf(six, 5, 5, 1, 32);
        forgetOf(six, 0, 9, 9, 10);
        KeyedFeelings pity = Check.of("p5>5:1,g9>5:1,g9>5:1,g9>5:1,g9>5:1,g0>0:1");
        forgetOf(pity, 0, 1, 0, 1);
        pity = Check.of("p4>5:1,g9>5:1,g9>5:1,g9>5:1,g9>5:1,g0>0:1");
        forgetOf(pity, 0, 1, 1, 100000);
        edges.says(25, "FORGET: above (what 0), below (1).");
        forgetOf(one, 1, 6, 3, 5);
        edges.says(25, "BAD.");
        int[][] bad = {{-1, 0, 0}, {2, 0, 0}, {0, -1, 0}, {0, 11, 0}, {0, 0, -1}, {0, 0, 2}, {Edges.LEAST, 0, 0},
            {Edges.MOST, 0, 0}, {0, Edges.LEAST, 0}, {0, Edges.MOST, 0}, {0, 0, Edges.LEAST}, {0, 0, Edges.MOST}};
        for (int[] each : bad) {
            edges.due("forget(" + each[0] + ", " + each[1] + ", " + each[2] + ")", one.forget(each[0], each[1], each[2]),
                Edges.BAD);
        }
        edges.due("forget of nobody", new KeyedFeelings().forget(0, 0, 0), Edges.BAD);
    }
}
