import java.util.ArrayDeque;
import java.util.Deque;
import java.util.List;

/** What is told of what is undone and of drifts, and promises 7 to 13, 26 and 27. */
final class EdgesOfDone {
    private final Edges edges;

    EdgesOfDone(Edges edges) {
        this.edges = edges;
    }

    void all() {
        hours();
        lastHour();
        lend();
        tell();
        cut();
        undone();
        eightAreKnown();
        roundAndRound();
        asAheadOfIt();
        nothingToBeUndone();
        undo();
        draw();
        lentByDraw();
        drift();
        driftUndone();
        seed();
        image();
        restore();
    }

    private void hours() {
        edges.says(7, "n HOURS (1 .. 48; each by itself may be UNDONE): who is STOPPED then (a set).");
        KeyedFeelings x = Check.of("g1,g2,g30");
        edges.due("hours(1), the least", x.hours(1), 1);
        edges.due("count(1)", x.count(1), 1);
        edges.due("count(7)", x.count(7), 1);
        edges.due("hours(2)", x.hours(2), 3);
        edges.due("each by itself", x.count(7), 3);
        edges.due("undo()", x.undo(), 2);
        edges.due("one hour is undone", x.count(1), 2);
        edges.turns("one hour is undone", x, 0, 0, 28);
        edges.due("hours(48), the most", x.hours(48), 7);
        edges.due("count(1)", x.count(1), 50);
        edges.due("count(7)", x.count(7), 8);
        edges.due("hours of nobody", new KeyedFeelings().hours(48), 0);
    }

    private void lastHour() {
        edges.says(7, "BAD; FULL: the HOUR would be above 9999.");
        int[] bad = {0, 49, -1, Edges.LEAST, Edges.MOST};
        for (int n : bad) {
            edges.due("hours(" + n + ")", Check.of("g9").hours(n), Edges.BAD);
        }
        KeyedFeelings x = Edges.atHour(9951);
        edges.due("hours(48) to 9999", x.hours(48), 0);
        edges.due("count(1)", x.count(1), 9999);
        edges.due("hours(1) to 10000", x.hours(1), Edges.FULL);
        edges.due("hours(48)", x.hours(48), Edges.FULL);
        x.undo();
        edges.due("hours(2) from 9998", x.hours(2), Edges.FULL);
        edges.due("count(1)", x.count(1), 9998);
        edges.due("hours(1) from 9998", x.hours(1), 0);
        edges.due("hours(48) from 9952", Edges.atHour(9952).hours(48), Edges.FULL);
        edges.says(11, "BAD; FULL: likewise.");
        for (int n : bad) {
            edges.due("drift(" + n + ")", Check.of("g9").drift(n), Edges.BAD);
        }
        KeyedFeelings y = Edges.atHour(9951);
        edges.due("drift(48) to 9999", y.drift(48), 0);
        edges.due("count(1)", y.count(1), 9999);
        edges.due("drift(1) to 10000", y.drift(1), Edges.FULL);
        y.undo();
        edges.due("drift(2) from 9998", y.drift(2), Edges.FULL);
        edges.due("drift(1) from 9998", y.drift(1), 0);
        edges.due("drift(48) from 9952", Edges.atHour(9952).drift(48), Edges.FULL);
    }

    private void lend() {
        edges.says(8, "LENT n (1 .. 30): TURNS then.");
        KeyedFeelings x = Check.of("g0,g0,g1");
        edges.due("lend(0, 1), the least", x.lend(0, 1), 1);
        edges.due("lend(1, 30), the most", x.lend(1, 30), 30);
        edges.due("lend(2, 30), 30 at most", x.lend(2, 30), 30);
        edges.turns("lent", x, 1, 30, 30);
        edges.says(8, "BAD; NOT: he has 30.");
        edges.due("lend(1, 1)", x.lend(1, 1), Edges.NOT);
        edges.due("lend(1, 30)", x.lend(1, 30), Edges.NOT);
        edges.due("lend(0, 28)", x.lend(0, 28), 29);
        edges.due("lend(0, 1) of 29", x.lend(0, 1), 30);
        int[][] bad = {{-1, 1}, {3, 1}, {Edges.NONE, 1}, {Edges.LEAST, 1}, {Edges.MOST, 1}, {0, 0}, {0, 31}, {0, -1},
            {0, Edges.LEAST}, {0, Edges.MOST}};
        for (int[] each : bad) {
            edges.due("lend(" + each[0] + ", " + each[1] + ")", x.lend(each[0], each[1]), Edges.BAD);
        }
        edges.due("lend of nobody", new KeyedFeelings().lend(0, 1), Edges.BAD);
    }

    private void tell() {
        edges.says(9, "TOLD to WIND another one, or none (NONE): whom he did (NONE).");
        KeyedFeelings x = Check.of("g1,g1,g1,g1,g1,g1");
        edges.due("tell(0, 5)", x.tell(0, 5), Edges.NONE);
        edges.due("tell(5, 0)", x.tell(5, 0), Edges.NONE);
        edges.due("tell(0, 1)", x.tell(0, 1), 5);
        edges.due("tell(5, NONE)", x.tell(5, Edges.NONE), 0);
        edges.due("of(5, 2)", x.of(5, 2), Edges.NONE);
        edges.due("of(0, 2)", x.of(0, 2), 1);
        edges.says(9, "BAD: himself, too; NOT: it is so.");
        edges.due("tell(0, 1)", x.tell(0, 1), Edges.NOT);
        edges.due("tell(5, NONE)", x.tell(5, Edges.NONE), Edges.NOT);
        int[][] bad = {{0, 0}, {5, 5}, {-1, 0}, {6, 0}, {0, 6}, {0, -1}, {0, -2}, {0, -3}, {0, -5}, {Edges.NONE, Edges.NONE},
            {-1, -1}, {6, 6}, {6, Edges.NONE}, {0, Edges.LEAST}, {0, Edges.MOST}, {Edges.LEAST, 0}, {Edges.MOST, 0}};
        for (int[] each : bad) {
            edges.due("tell(" + each[0] + ", " + each[1] + ")", x.tell(each[0], each[1]), Edges.BAD);
        }
        edges.due("tell of one alone", Check.of("g1").tell(0, 1), Edges.BAD);
        edges.due("tell of one alone to none", Check.of("g1").tell(0, Edges.NONE), Edges.NOT);
        edges.due("tell of nobody", new KeyedFeelings().tell(0, Edges.NONE), Edges.BAD);
    }

    private void cut() {
        edges.says(10, "CUT: the KEY he had.");
        KeyedFeelings x = Check.of("g1,g1>0:7");
        edges.due("cut(1, 12), the most", x.cut(1, 12), 7);
        edges.due("cut(1, 1), the least", x.cut(1, 1), 12);
        edges.due("cut(0, 2), of one who winds none", x.cut(0, 2), 1);
        edges.due("of(0, 3)", x.of(0, 3), 2);
        edges.due("of(1, 3)", x.of(1, 3), 1);
        edges.says(10, "BAD; NOT: it is so.");
        edges.due("cut(1, 1)", x.cut(1, 1), Edges.NOT);
        edges.due("cut(0, 2)", x.cut(0, 2), Edges.NOT);
        int[][] bad = {{-1, 3}, {2, 3}, {Edges.LEAST, 3}, {Edges.MOST, 3}, {0, 0}, {0, 13}, {0, -1}, {0, Edges.LEAST},
            {0, Edges.MOST}};
        for (int[] each : bad) {
            edges.due("cut(" + each[0] + ", " + each[1] + ")", x.cut(each[0], each[1]), Edges.BAD);
        }
        edges.due("cut of nobody", new KeyedFeelings().cut(0, 3), Edges.BAD);
    }

    private void undone() {
        edges.says(Edges.TERMS, "UNDONE: the latest HOUR, LENT, TOLD, CUT is as it had not been");
        KeyedFeelings x = Check.of("g9>1:3,c9");
        x.hours(1);
        edges.due("undo() of an hour", x.undo(), 0);
        edges.turns("of an hour", x, 9, 9);
        x.lend(0, 30);
        edges.due("undo() of what was lent", x.undo(), 0);
        edges.turns("of what was lent", x, 9, 9);
        x.tell(0, Edges.NONE);
        edges.due("undo() of what was told", x.undo(), 0);
        edges.due("of what was told", x.of(0, 2), 1);
        x.cut(0, 12);
        edges.due("undo() of a cut", x.undo(), 0);
        edges.due("of a cut", x.of(0, 3), 3);
        x.hours(1);
        x.lend(0, 0);
        x.lend(0, 31);
        x.cut(0, 3);
        x.tell(0, 1);
        edges.due("what was refused is none of them", x.undo(), 0);
        edges.turns("what was refused is none of them", x, 9, 9);
        edges.same("all is as it had not been", Seen.all(x), Seen.all(Check.of("g9>1:3,c9")));
    }

    private void eightAreKnown() {
        edges.says(Edges.TERMS, "(8 are known, older ones lost)");
        KeyedFeelings x = Check.of("g0");
        for (int lent = 1; lent <= 8; lent++) {
            x.lend(0, 1);
            edges.due("known", x.count(7), lent);
        }
        for (int lent = 9; lent <= 30; lent++) {
            x.lend(0, 1);
            edges.due("known", x.count(7), 8);
        }
        for (int left = 7; left >= 0; left--) {
            edges.due("undo()", x.undo(), left);
            edges.due("turns", x.of(0, 1), 22 + left);
        }
        edges.due("older ones", x.undo(), Edges.NONE);
        edges.due("turns", x.of(0, 1), 22);
    }

    /** Five cuts and three undone, over and over: what is known goes round in its eight places. */
    private void roundAndRound() {
        edges.says(Edges.TERMS, "(8 are known, older ones lost)");
        KeyedFeelings x = Check.of("g0");
        Deque<Integer> keys = new ArrayDeque<>(List.of(1));
        for (int round = 0; round < 20; round++) {
            for (int each = 0; each < 5; each++) {
                keys.push(keys.peek() % 12 + 1);
                x.cut(0, keys.peek());
            }
            for (int each = 0; each < 3; each++) {
                keys.pop();
                x.undo();
                edges.due("key in round " + round, x.of(0, 3), keys.peek());
            }
            edges.due("known in round " + round, x.count(7), Math.min(5, 2 * round + 2));
        }
    }

    private void asAheadOfIt() {
        edges.says(Edges.TERMS, "TURNS, who WINDS whom, KEYS, the HOUR, THE DRAW are as ahead of it, whatever was told since");
        KeyedFeelings x = Check.of("g9>1:3,c9");
        x.seed(50);
        x.drift(1);
        x.seed(60);
        edges.due("undo()", x.undo(), 0);
        edges.due("the draw", x.seed(70), 50);
        edges.due("the hour", x.count(1), 0);
        x.cut(0, 4);
        x.seed(80);
        x.undo();
        edges.due("the draw ahead of a cut", x.seed(90), 70);
        x.tell(1, 0);
        x.seed(100);
        x.undo();
        edges.due("the draw ahead of a telling", x.seed(110), 90);
        x.lend(1, 1);
        x.seed(120);
        x.undo();
        edges.due("the draw ahead of a lending", x.seed(130), 110);
        x.hours(1);
        x.seed(140);
        x.undo();
        edges.due("the draw ahead of an hour", x.seed(1), 130);
        edges.same("all", Seen.all(x), Seen.all(Check.of("g9>1:3,c9")));
    }

    private void nothingToBeUndone() {
        edges.says(Edges.TERMS, "a CLOSE, one more of PEOPLE leave nothing to be UNDONE.");
        KeyedFeelings x = Check.of("g9");
        x.hours(3);
        Check.close(x, "g31");
        edges.due("a fault leaves it", x.count(7), 3);
        x.person(5, 5);
        edges.due("one refused leaves it", x.count(7), 3);
        x.person(0, 1);
        edges.due("one more", x.undo(), Edges.NONE);
        x.hours(3);
        Check.close(x, "g9");
        edges.due("a close", x.undo(), Edges.NONE);
        x.hours(1);
        edges.due("what is done since is known", x.undo(), 0);
        KeyedFeelings six = Check.of("g1,g1,g1,g1,g1,g1");
        six.hours(2);
        six.person(0, 1);
        edges.due("a seventh leaves it", six.undo(), 1);
    }

    private void undo() {
        edges.says(12, "UNDONE: how many more may be.");
        KeyedFeelings x = new KeyedFeelings();
        x.hours(9);
        for (int left = 7; left >= 0; left--) {
            edges.due("undo()", x.undo(), left);
            edges.due("count(7)", x.count(7), left);
        }
        edges.says(12, "NONE: none is known.");
        edges.due("undo()", x.undo(), Edges.NONE);
        edges.due("undo() once more", x.undo(), Edges.NONE);
        edges.due("undo() of a new object", new KeyedFeelings().undo(), Edges.NONE);
        x.seed(9);
        edges.due("undo() of a seed", x.undo(), Edges.NONE);
    }

    private void draw() {
        edges.says(Edges.TERMS, "DRIFT by a seed: THE DRAW is a number of 31 bits (1 at first); ahead of each HOUR of a DRIFT it "
            + "becomes the lowest 31 bits of itself times 1103515245 and 12345 more");
        edges.due("at first", new KeyedFeelings().seed(0), 1);
        int[][] draws = {{0, 12345}, {1, 1103527590}, {Edges.MOST, 1043980748}, {1 << 30, 1073754169},
            {1103527590, 377401575}, {377401575, 662824084}};
        for (int[] each : draws) {
            KeyedFeelings x = new KeyedFeelings();
            x.seed(each[0]);
            x.drift(1);
            edges.due("from " + each[0], x.seed(0), each[1]);
        }
        KeyedFeelings x = Check.of("g9");
        x.drift(2);
        edges.due("ahead of each hour", x.seed(0), 377401575);
        x.hours(9);
        edges.due("not of hours alone", x.seed(0), 0);
        x.ahead(0, 80);
        edges.due("nor of what is foretold", x.seed(0), 0);
    }

    private void lentByDraw() {
        edges.says(Edges.TERMS, "if it by 65536, left over by 4, is 0, and there are PEOPLE, the one that it is by 128, left over by "
            + "how many there are, is LENT 3 TURNS.");
        String[] closes = {"g5", "g5,g5", "g5,g5,g5", "g5,g5,g5,g5", "g5,g5,g5,g5,g5", "g5,g5,g5,g5,g5,g5"};
        long[] draws = {0, 128, 5 * 128, 6 * 128, 65535, 262144, 2147287039L};
        for (long draw : draws) {
            for (int people = 1; people <= 6; people++) {
                KeyedFeelings x = Check.of(closes[people - 1]);
                x.seed(EdgesOfTerms.seedOf(draw));
                x.drift(1);
                for (int person = 0; person < people; person++) {
                    int due = draw / 128 % people == person ? 7 : 4;
                    edges.due("turns of " + person + " of " + people + ", draw " + draw, x.of(person, 1), due);
                }
            }
            KeyedFeelings nobody = new KeyedFeelings();
            nobody.seed(EdgesOfTerms.seedOf(draw));
            edges.due("drift(1) of nobody", nobody.drift(1), 0);
            edges.due("the draw", nobody.seed(0), draw);
        }
        lentTo("g0", 2);
        lentTo("g27", 29);
        lentTo("g28", 29);
        lentTo("g30", 29);
        lentTo("c0", 1);
        KeyedFeelings winds = Check.of("g0>1:5,g9");
        winds.seed(EdgesOfTerms.seedOf(0));
        winds.drift(1);
        edges.turns("lent ahead of the hour, so that he winds in it", winds, 2, 13);
    }

    /** One alone is lent 3 ahead of hour 0. */
    private void lentTo(String close, int due) {
        KeyedFeelings x = Check.of(close);
        x.seed(EdgesOfTerms.seedOf(0));
        x.drift(1);
        edges.due("turns of " + close, x.of(0, 1), due);
    }

    private void drift() {
        edges.says(11, "A DRIFT of n HOURS (1 .. 48; each with what is LENT one that may be UNDONE): who is STOPPED then (a set).");
        KeyedFeelings x = Check.of("g1,g2,g30");
        x.seed(EdgesOfTerms.seedOf(65536));
        edges.due("drift(1), the least", x.drift(1), 1);
        edges.due("count(1)", x.count(1), 1);
        edges.due("count(7)", x.count(7), 1);
        KeyedFeelings once = Check.of("g9,g9,g9,l9");
        KeyedFeelings each = Check.of("g9,g9,g9,l9");
        int last = 0;
        for (int hour = 0; hour < 48; hour++) {
            last = each.drift(1);
        }
        edges.due("drift(48), the most", once.drift(48), last);
        edges.due("count(1)", once.count(1), 48);
        edges.due("count(7)", once.count(7), 8);
        edges.same("48 at once or each by itself", Seen.all(once), Seen.all(each));
        edges.due("drift(48) of nobody", new KeyedFeelings().drift(48), 0);
    }

    private void driftUndone() {
        edges.says(11, "each with what is LENT one that may be UNDONE");
        KeyedFeelings x = Check.of("g5");
        x.seed(EdgesOfTerms.seedOf(262144));
        x.drift(1);
        edges.turns("lent and run", x, 7);
        edges.due("one that may be undone", x.count(7), 1);
        edges.due("undo()", x.undo(), 0);
        edges.turns("neither lent nor run", x, 5);
        edges.due("nor drawn", x.seed(1), EdgesOfTerms.seedOf(262144));
    }

    private void seed() {
        edges.says(13, "THE DRAW becomes v: what it was.");
        KeyedFeelings x = new KeyedFeelings();
        edges.due("seed(0), the least", x.seed(0), 1);
        edges.due("seed(most)", x.seed(Edges.MOST), 0);
        edges.due("seed(5)", x.seed(5), Edges.MOST);
        edges.says(13, "BAD: below 0.");
        edges.due("seed(-1)", x.seed(-1), Edges.BAD);
        edges.due("seed(least)", x.seed(Edges.LEAST), Edges.BAD);
        edges.due("what was refused is not the draw", x.seed(5), 5);
    }

    private static KeyedFeelings kept() {
        KeyedFeelings x = Check.of("g9>1:3,c9,l4>0:12");
        x.seed(99);
        x.drift(11);
        x.cut(1, 7);
        return x;
    }

    private void image() {
        edges.says(26, "All but SHEETS, THE TAPE is kept as an IMAGE: 1.");
        KeyedFeelings x = kept();
        edges.due("image()", x.image(), 1);
        KeyedFeelings twin = kept();
        twin.image();
        x.sheet(0, 1, 5);
        x.type('g');
        x.type('5');
        x.hours(20);
        x.tell(0, 2);
        x.person(0, 3);
        x.seed(3);
        x.restore();
        edges.due("the tape goes on", x.type(','), 3);
        edges.due("sheets go on", x.drop(0), 5);
        x.close();
        edges.same("all else", Seen.all(x), Seen.all(twin));
        KeyedFeelings again = kept();
        edges.due("image()", again.image(), 1);
        again.hours(1);
        edges.due("image() in place of it", again.image(), 1);
        int hour = again.count(1);
        again.hours(5);
        again.restore();
        edges.due("the later one", again.count(1), hour);
    }

    private void restore() {
        edges.says(27, "All is as it was then: 1.");
        KeyedFeelings x = kept();
        x.image();
        for (int round = 0; round < 3; round++) {
            Check.close(x, "t1,t2");
            x.seed(round);
            x.drift(3 + round);
            edges.due("restore()", x.restore(), 1);
            edges.due("restore() once more", x.restore(), 1);
            for (int left = 7; left >= round; left--) {
                edges.due("undo()", x.undo(), left);
            }
        }
        KeyedFeelings twin = kept();
        twin.image();
        x.restore();
        edges.same("as often as one likes", Seen.all(x), Seen.all(twin));
        KeyedFeelings empty = new KeyedFeelings();
        empty.image();
        empty.person(0, 3);
        empty.hours(3);
        edges.due("restore() of an empty close", empty.restore(), 1);
        edges.due("nobody", empty.count(0), 0);
        edges.due("hour", empty.count(1), 0);
        edges.says(27, "NONE: there is none.");
        KeyedFeelings none = kept();
        edges.due("restore()", none.restore(), Edges.NONE);
        none.image();
        edges.due("restore() behind an image", none.restore(), 1);
        edges.due("restore() of a new object", new KeyedFeelings().restore(), Edges.NONE);
    }
}
