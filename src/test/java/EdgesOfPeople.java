/** Section 1 of the terms, and promises 1 to 3 and 6: people, and how they run. */
final class EdgesOfPeople {
    private static final int GLAD = 0, CONCERN = 1, TENDER = 2, PITY = 3, LONE = 4;
    private final Edges edges;

    EdgesOfPeople(Edges edges) {
        this.edges = edges;
    }

    void all() {
        emptyClose();
        person();
        of();
        count();
        peopleAsTheyCome();
        stopped();
        glad();
        concern();
        tender();
        pity();
        lone();
        windingHours();
        gains();
        aheadOfIt();
        run();
        nextHour();
        lentToldCut();
    }

    private void emptyClose() {
        edges.says(1, "An empty close.");
        KeyedFeelings x = new KeyedFeelings();
        int[] counts = {0, 0, 0, 0, 0, 0, 1, 0};
        for (int what = 0; what < counts.length; what++) {
            edges.due("count(" + what + ")", x.count(what), counts[what]);
        }
        edges.due("of(0, 0)", x.of(0, 0), Edges.BAD);
        edges.due("the tape is empty", x.type('g'), 1);
        edges.due("undo()", x.undo(), Edges.NONE);
        edges.due("restore()", x.restore(), Edges.NONE);
        edges.due("seed(5)", x.seed(5), 1);
        for (int sheet = 0; sheet < 4; sheet++) {
            edges.due("drop(" + sheet + ")", x.drop(sheet), Edges.NULL);
        }
        edges.says(Edges.TERMS, "It is HOUR 0 at first.");
        edges.due("count(1)", new KeyedFeelings().count(1), 0);
        edges.due("count(1) of a close", Check.of("g1").count(1), 0);
    }

    private void person() {
        edges.says(2, "One of PEOPLE, who WINDS none (KEY 1): its number.");
        KeyedFeelings x = new KeyedFeelings();
        edges.due("person(0, 0), the least", x.person(0, 0), 0);
        edges.due("person(4, 30), the most", x.person(4, 30), 1);
        int[][] due = {{0, 0, Edges.NONE, 1}, {4, 30, Edges.NONE, 1}};
        for (int what = 0; what < 4; what++) {
            edges.due("of(0, " + what + ")", x.of(0, what), due[0][what]);
            edges.due("of(1, " + what + ")", x.of(1, what), due[1][what]);
        }
        edges.says(2, "BAD; FULL: 6.");
        int[][] bad = {{-1, 5}, {5, 5}, {Edges.LEAST, 5}, {Edges.MOST, 5}, {0, -1}, {0, 31}, {0, Edges.LEAST}, {0, Edges.MOST}};
        for (int[] each : bad) {
            edges.due("person(" + each[0] + ", " + each[1] + ")", x.person(each[0], each[1]), Edges.BAD);
        }
        for (int number = 2; number < 6; number++) {
            edges.due("person", x.person(0, 1), number);
        }
        edges.due("a seventh", x.person(0, 1), Edges.FULL);
        edges.due("count(0)", x.count(0), 6);
        edges.due("a seventh behind a close of 6", Check.of("g1,g1,g1,g1,g1,g1").person(0, 1), Edges.FULL);
        edges.due("a sixth behind a close of 5", Check.of("g1,g1,g1,g1,g1").person(0, 1), 5);
    }

    private void of() {
        edges.says(3, "Of one: 0 KIND, 1 TURNS, 2 whom he WINDS (NONE), 3 KEY, 4 how many he RUNS off in this HOUR "
            + "(0: STOPPED), 5 who WINDS him (a set).");
        KeyedFeelings x = Check.of("g0,c30>5:12,t1>5:1,p1>5:2,l1>5:3,g0>1:4");
        int[][] due = {{0, 0, Edges.NONE, 1, 0, 0}, {1, 30, 5, 12, 2, 32}, {2, 1, 5, 1, 0, 0}, {3, 1, 5, 2, 4, 0},
            {4, 1, 5, 3, 0, 0}, {0, 0, 1, 4, 0, 30}};
        for (int person = 0; person < 6; person++) {
            for (int what = 0; what < 6; what++) {
                edges.due("of(" + person + ", " + what + ")", x.of(person, what), due[person][what]);
            }
        }
        edges.says(3, "BAD.");
        int[][] bad = {{-1, 0}, {6, 0}, {0, -1}, {0, 6}, {Edges.NONE, 2}, {Edges.LEAST, 0}, {Edges.MOST, 0}, {0, Edges.LEAST},
            {0, Edges.MOST}};
        for (int[] each : bad) {
            edges.due("of(" + each[0] + ", " + each[1] + ")", x.of(each[0], each[1]), Edges.BAD);
        }
        edges.due("of(2, 0) of two", Check.of("g1,g1").of(2, 0), Edges.BAD);
    }

    private void count() {
        edges.says(6, "0 PEOPLE, 1 the HOUR, 2 who is STOPPED (a set), 3 TURNS of all together, 4 RING (a set), 5 WITHOUT, "
            + "6 whether this is an HOUR of WINDING (1, 0), 7 what may be UNDONE.");
        KeyedFeelings most = Check.of("g30>1:1,g30>2:1,g30>3:1,g30>4:1,g30>5:1,g30>0:1");
        int[] due = {6, 0, 0, 180, 63, 0, 1, 0};
        for (int what = 0; what < due.length; what++) {
            edges.due("count(" + what + ")", most.count(what), due[what]);
        }
        KeyedFeelings late = Edges.atHour(9992);
        edges.due("count(6) in 9992", late.count(6), 1);
        edges.due("count(7), 8 at most", late.count(7), 8);
        late.hours(7);
        edges.due("count(1), the last", late.count(1), 9999);
        edges.due("count(6) in 9999", late.count(6), 0);
        edges.says(6, "BAD.");
        int[] bad = {-1, 8, Edges.LEAST, Edges.MOST};
        for (int what : bad) {
            edges.due("count(" + what + ")", most.count(what), Edges.BAD);
        }
    }

    private void peopleAsTheyCome() {
        edges.says(Edges.TERMS, "PEOPLE 0 .. 5, as they come, are of a KIND, have TURNS 0 .. 30 in them, WIND another one, or "
            + "none (at first), by a KEY of 1 .. 12.");
        KeyedFeelings x = new KeyedFeelings();
        for (int number = 0; number < 6; number++) {
            edges.due("person", x.person(number % 5, number * 6), number);
            edges.due("none at first", x.of(number, 2), Edges.NONE);
            edges.due("key", x.of(number, 3), 1);
        }
        for (int number = 0; number < 6; number++) {
            edges.due("kind", x.of(number, 0), number % 5);
            edges.due("turns", x.of(number, 1), number * 6);
        }
        edges.due("the first winds the last", x.tell(0, 5), Edges.NONE);
        edges.due("by a key of 12", x.cut(0, 12), 1);
        edges.due("of 1 again", x.cut(0, 1), 12);
        edges.due("the last has 30", x.of(5, 1), 30);
        edges.due("6 is nobody", x.tell(0, 6), Edges.BAD);
        edges.due("6 is nobody", x.of(6, 1), Edges.BAD);
    }

    private void stopped() {
        edges.says(Edges.TERMS, "Who has no TURNS is STOPPED.");
        KeyedFeelings x = Check.of("g0,g1,l0,p30");
        edges.due("count(2)", x.count(2), 5);
        edges.due("of(0, 4)", x.of(0, 4), 0);
        edges.due("of(1, 4)", x.of(1, 4), 1);
        edges.due("he goes on when lent", x.lend(0, 1), 1);
        edges.due("count(2)", x.count(2), 4);
    }

    /** What one with 9 turns, told none, runs off in each of these hours, as it is told and as it is played. */
    private void alone(int kind, int[] hours, int[] due) {
        for (int each = 0; each < hours.length; each++) {
            KeyedFeelings x = Edges.atHour(hours[each]);
            x.person(kind, 9);
            edges.due("of(0, 4) in " + hours[each], x.of(0, 4), due[each]);
            edges.due("ahead(0, 1) in " + hours[each], x.ahead(0, 1), 9 - due[each]);
        }
    }

    private static final int[] HOURS = {0, 1, 2, 3, 4, 5, 6, 7, 8, 9, 24, 9996, 9997, 9998, 9999};

    private void glad() {
        edges.says(Edges.TERMS, "How many TURNS one RUNS off in an HOUR, if he is not STOPPED, by KIND: 0 GLAD: 1.");
        alone(GLAD, HOURS, new int[] {1, 1, 1, 1, 1, 1, 1, 1, 1, 1, 1, 1, 1, 1, 1});
        for (int kind = 0; kind < 5; kind++) {
            KeyedFeelings x = Edges.atHour(2);
            x.person(kind, 0);
            edges.due("a stopped one of kind " + kind, x.of(0, 4), 0);
        }
    }

    private void concern() {
        edges.says(Edges.TERMS, "Below it 1 CONCERN: as GLAD; 1 more in HOURS of an even number.");
        alone(CONCERN, HOURS, new int[] {2, 1, 2, 1, 2, 1, 2, 1, 2, 1, 2, 2, 1, 2, 1});
    }

    private void tender() {
        edges.says(Edges.TERMS, "2 TENDER (below GLAD): as GLAD, but nothing in HOURS that are a multiple of 3 (0, too).");
        int[] due = {0, 1, 1, 0, 1, 1, 0, 1, 1, 0, 0, 0, 1, 1, 0};
        alone(TENDER, HOURS, due);
        KeyedFeelings x = Edges.atHour(2);
        x.person(TENDER, 9);
        Edges.join(x, GLAD, 9, 0, 1);
        edges.due("wound by one: as by nobody", x.of(0, 4), 1);
    }

    private void pity() {
        edges.says(Edges.TERMS, "3 PITY (below CONCERN): as CONCERN; 2 more, if he WINDS one who is STOPPED.");
        alone(PITY, HOURS, new int[] {2, 1, 2, 1, 2, 1, 2, 1, 2, 1, 2, 2, 1, 2, 1});
        for (int hour = 1; hour <= 6; hour++) {
            KeyedFeelings x = Edges.atHour(hour);
            int concern = hour % 2 == 0 ? 2 : 1;
            x.person(PITY, 9);
            x.person(GLAD, 0);
            edges.due("a stopped one whom he does not wind, in " + hour, x.of(0, 4), concern);
            x.tell(0, 1);
            edges.due("a stopped one, in " + hour, x.of(0, 4), concern + 2);
            edges.due("he runs off so, in " + hour, x.ahead(0, 1), 9 - concern - 2);
            x.lend(1, 1);
            edges.due("one with 1, in " + hour, x.of(0, 4), concern);
        }
        KeyedFeelings wound = Edges.atHour(1);
        wound.person(PITY, 9);
        Edges.join(wound, GLAD, 0, 0, 1);
        edges.due("a stopped one who winds him", wound.of(0, 4), 1);
        KeyedFeelings both = Edges.atHour(1);
        both.person(PITY, 0);
        Edges.join(both, PITY, 9, 0, 1);
        both.tell(0, 1);
        edges.due("a stopped one has no pity", both.of(0, 4), 0);
        edges.due("he winds a stopped one of his kind", both.of(1, 4), 3);
    }

    private void lone() {
        edges.says(Edges.TERMS, "4 LONE (below TENDER): as TENDER; twice that, if nobody WINDS him.");
        alone(LONE, HOURS, new int[] {0, 2, 2, 0, 2, 2, 0, 2, 2, 0, 0, 0, 2, 2, 0});
        for (int hour = 1; hour <= 6; hour++) {
            KeyedFeelings x = Edges.atHour(hour);
            int tender = hour % 3 == 0 ? 0 : 1;
            x.person(LONE, 9);
            Edges.join(x, GLAD, 0, 0, 1);
            edges.due("wound by one who is stopped, in " + hour, x.of(0, 4), tender);
            edges.due("he runs off so, in " + hour, x.ahead(0, 1), 9 - tender);
            x.tell(1, Edges.NONE);
            edges.due("by nobody, in " + hour, x.of(0, 4), 2 * tender);
            x.tell(0, 1);
            edges.due("he winds one himself, in " + hour, x.of(0, 4), 2 * tender);
        }
    }

    private void windingHours() {
        edges.says(Edges.TERMS, "An HOUR: if it is a multiple of 8 (0, too), all who are not STOPPED WIND");
        int[] hours = {0, 1, 4, 7, 8, 9, 12, 15, 16, 17, 24, 9991, 9992, 9993, 9999};
        for (int hour : hours) {
            KeyedFeelings x = Edges.atHour(hour);
            x.person(GLAD, 9);
            Edges.join(x, GLAD, 9, 0, 5);
            edges.due("in " + hour, x.ahead(0, 1), hour % 8 == 0 ? 13 : 8);
            edges.due("count(6) in " + hour, x.count(6), hour % 8 == 0 ? 1 : 0);
        }
        edges.due("who is stopped does not", Check.of("g9,g0>0:5").ahead(0, 1), 8);
        edges.due("who has 1 does", Check.of("g9,g1>0:5").ahead(0, 1), 13);
        edges.due("one alone winds nobody", Check.of("g9").ahead(0, 1), 8);
        edges.due("an empty close has hours, too", new KeyedFeelings().hours(9), 0);
    }

    private void gains() {
        edges.says(Edges.TERMS, "those they WIND get as many TURNS more as the KEY (30 at most, of all together)");
        edges.due("a key of 1", Check.of("g9>1:1,g9").ahead(1, 1), 9);
        edges.due("a key of 12", Check.of("g9>1:12,g9").ahead(1, 1), 20);
        edges.due("just below 30", Check.of("g9>1:12,g17").ahead(1, 1), 28);
        edges.due("just 30", Check.of("g9>1:12,g18").ahead(1, 1), 29);
        edges.due("just above 30", Check.of("g9>1:12,g19").ahead(1, 1), 29);
        edges.due("of 30", Check.of("g9>1:12,g30").ahead(1, 1), 29);
        edges.due("of two together, below", Check.of("g9>2:5,g9>2:7,g9").ahead(2, 1), 20);
        edges.due("of two together, above", Check.of("g9>2:12,g9>2:12,g9").ahead(2, 1), 29);
        edges.due("of five together", Check.of("g9>5:4,g9>5:4,g9>5:4,g9>5:4,g9>5:4,g9").ahead(5, 1), 28);
        edges.due("a couple", Check.of("g9>1:3,g9>0:4").ahead(0, 1), 12);
    }

    private void aheadOfIt() {
        edges.says(Edges.TERMS, "by how all is ahead of it.");
        KeyedFeelings up = Check.of("g5>1:5,g0>2:5,g0");
        edges.due("who is wound just then does not wind yet", up.hours(1), 4);
        edges.turns("rising", up, 4, 4, 0);
        KeyedFeelings down = Check.of("g0,g0>0:5,g5>1:5");
        edges.due("nor those that come later", down.hours(1), 1);
        edges.turns("falling", down, 0, 4, 4);
        KeyedFeelings round = Check.of("g1>1:5,g0>0:5");
        round.hours(1);
        edges.turns("round", round, 0, 4);
    }

    private void run() {
        edges.says(Edges.TERMS, "Then all RUN, by how all is then (TURNS 0 at least).");
        edges.due("who is wound out of his stop runs", Check.of("g9>1:3,g0").ahead(1, 1), 2);
        edges.due("and is not pitied", Check.of("p9>1:3,g0").ahead(0, 1), 7);
        edges.due("but when he has run down", Check.of("p9>1:3,g0").ahead(0, 4), 9 - 2 - 1 - 2 - 3);
        KeyedFeelings first = Edges.atHour(1);
        first.person(GLAD, 1);
        Edges.join(first, PITY, 9, 0, 1);
        first.hours(1);
        edges.turns("who stops in the hour is not pitied in it", first, 0, 8);
        first.hours(1);
        edges.turns("but in the next", first, 0, 4);
        KeyedFeelings later = Edges.atHour(1);
        later.person(PITY, 9);
        later.person(GLAD, 1);
        later.tell(0, 1);
        later.hours(1);
        edges.turns("in whichever order they came", later, 8, 0);
        KeyedFeelings least = Edges.atHour(2);
        least.person(CONCERN, 1);
        least.person(CONCERN, 2);
        least.person(CONCERN, 3);
        least.person(PITY, 3);
        least.person(GLAD, 0);
        least.tell(3, 4);
        least.person(LONE, 1);
        edges.due("hours(1)", least.hours(1), 1 + 2 + 8 + 16 + 32);
        edges.turns("0 at least", least, 0, 0, 1, 0, 0, 0);
    }

    private void nextHour() {
        edges.says(Edges.TERMS, "It is the next HOUR.");
        KeyedFeelings x = Check.of("g0");
        for (int hour = 1; hour <= 9; hour++) {
            x.hours(1);
            edges.due("count(1)", x.count(1), hour);
        }
        edges.due("the last", Edges.atHour(9999).count(1), 9999);
    }

    private void lentToldCut() {
        edges.says(Edges.TERMS, "LENT: one gets n TURNS more (30 at most).");
        edges.due("lend to 29", Check.of("g17").lend(0, 12), 29);
        edges.due("lend to 30", Check.of("g18").lend(0, 12), 30);
        edges.due("lend above 30", Check.of("g29").lend(0, 30), 30);
        edges.says(Edges.TERMS, "TOLD: one WINDS another one, or none, from now on.");
        KeyedFeelings told = Check.of("g9,g9,g9");
        told.tell(0, 2);
        edges.due("he winds him in this hour", told.ahead(2, 1), 9);
        told.hours(1);
        told.tell(0, 1);
        edges.due("and another one from now on", told.ahead(1, 8), 8 - 7 + 1 - 1);
        edges.due("and no more the first", told.ahead(2, 8), 9 - 7 - 1);
        told.tell(0, Edges.NONE);
        edges.due("or none", told.ahead(1, 8), 0);
        edges.says(Edges.TERMS, "CUT: the KEY of one is another.");
        KeyedFeelings cut = Check.of("g9>1:12,g9");
        cut.cut(0, 1);
        edges.due("it winds by 1", cut.ahead(1, 1), 9);
        cut.cut(0, 12);
        edges.due("it winds by 12", cut.ahead(1, 1), 20);
    }
}
