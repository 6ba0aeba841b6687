/** Section 3 of the terms as to rows, and promises 28 to 33. */
final class EdgesOfSheets {
    /** Of each lane: how much higher a number is that has the same lowest bits. */
    private static final long[] AROUND = {1L << 8, 1L << 16, 1L << 32};
    private final Edges edges;

    EdgesOfSheets(Edges edges) {
        this.edges = edges;
    }

    void all() {
        sheets();
        sheet();
        drop();
        item();
        itemRefused();
        copy();
        copyRefused();
        heardRows();
        heardKinds();
        heardTurns();
        heardKeys();
        heard();
        heardRefused();
        film();
        filmRefused();
    }

    /** One alone in hour 1, so that an item of 0 .. 29 is heard as a turn more. */
    private static KeyedFeelings listener() {
        KeyedFeelings x = Check.of("g30");
        x.hours(1);
        return x;
    }

    private void items(String what, KeyedFeelings x, int sheet, int lane, int... due) {
        for (int i = 0; i < due.length; i++) {
            int heard = due[i] < 0 ? 0 : due[i] == 0 ? 3 : 1 << due[i] + 1;
            edges.due(what + ": item " + i + " is " + due[i], x.heard(0, sheet, lane, i, 1, 1), heard);
        }
    }

    private void sheets() {
        edges.says(Edges.TERMS, "3 sheets 0 .. 3: nothing (at first), or a row of a LANE: 0 bytes, 1 shorts, 2 ints, 3 longs, of 0 to "
            + "24 items.");
        KeyedFeelings x = listener();
        for (int sheet = 0; sheet < 4; sheet++) {
            edges.due("nothing at first in " + sheet, x.drop(sheet), Edges.NULL);
            edges.due("0 items", x.sheet(sheet, sheet, 0), 0);
            edges.due("24 items", x.sheet(sheet, sheet, 24), 24);
            edges.due("the last item", x.item(sheet, sheet, 23, 5), 1);
            edges.due("none behind it", x.item(sheet, sheet, 24, 5), Edges.INDEX);
        }
        edges.due("drop(-1)", x.drop(-1), Edges.BAD);
        edges.due("drop(4)", x.drop(4), Edges.BAD);
        for (int sheet = 0; sheet < 4; sheet++) {
            for (int lane = 0; lane < 4; lane++) {
                edges.due("sheet " + sheet + " of lane " + lane, x.item(sheet, lane, 0, 1), sheet == lane ? 1 : Edges.CAST);
            }
        }
    }

    private void sheet() {
        edges.says(30, "A SHEET holds a new row of a LANE: n.");
        KeyedFeelings x = listener();
        Edges.fill(x, 2, 1, 7, 8, 9);
        edges.due("sheet(2, 1, 3)", x.sheet(2, 1, 3), 3);
        items("a new row", x, 2, 1, 0, 0, 0);
        Edges.fill(x, 2, 1, 7, 8, 9);
        edges.due("sheet(2, 1, 1)", x.sheet(2, 1, 1), 1);
        edges.due("sheet(2, 1, 3)", x.sheet(2, 1, 3), 3);
        items("a longer one again", x, 2, 1, 0, 0, 0);
        edges.due("sheet(2, 3, 24)", x.sheet(2, 3, 24), 24);
        edges.due("of another lane now", x.item(2, 1, 0, 1), Edges.CAST);
        edges.due("sheet(2, 3, 0)", x.sheet(2, 3, 0), 0);
        edges.due("without any item", x.item(2, 3, 0, 1), Edges.INDEX);
        edges.says(30, "BAD: also n above 24; SIZE: n below 0.");
        int[][] bad = {{-1, 0, 1}, {4, 0, 1}, {Edges.LEAST, 0, 1}, {Edges.MOST, 0, 1}, {0, -1, 1}, {0, 4, 1}, {0, Edges.LEAST, 1},
            {0, Edges.MOST, 1}, {0, 0, 25}, {0, 0, Edges.MOST}, {4, 0, -1}, {0, 4, -1}};
        for (int[] each : bad) {
            edges.due("sheet(" + each[0] + ", " + each[1] + ", " + each[2] + ")", x.sheet(each[0], each[1], each[2]), Edges.BAD);
        }
        edges.due("sheet(2, 0, -1)", x.sheet(2, 0, -1), Edges.SIZE);
        edges.due("sheet(2, 0, least)", x.sheet(2, 0, Edges.LEAST), Edges.SIZE);
        edges.due("the row stays", x.drop(2), 0);
    }

    private void drop() {
        edges.says(31, "A SHEET holds nothing: how many items it had.");
        KeyedFeelings x = listener();
        x.sheet(0, 0, 0);
        x.sheet(3, 3, 24);
        edges.due("drop(0), of none", x.drop(0), 0);
        edges.due("drop(3), of 24", x.drop(3), 24);
        edges.due("it holds nothing", x.item(3, 3, 0, 1), Edges.NULL);
        Edges.fill(x, 3, 3, 7, 8);
        x.drop(3);
        x.sheet(3, 3, 2);
        items("what it held is lost", x, 3, 3, 0, 0);
        edges.says(31, "BAD; NULL.");
        edges.due("drop(0) once more", x.drop(0), Edges.NULL);
        edges.due("drop(1), of nothing at first", x.drop(1), Edges.NULL);
        int[] bad = {-1, 4, Edges.LEAST, Edges.MOST};
        for (int sheet : bad) {
            edges.due("drop(" + sheet + ")", x.drop(sheet), Edges.BAD);
        }
    }

    private void item() {
        edges.says(32, "Item i of a SHEET, taken as a row of a LANE, becomes v, its lowest bits: 1.");
        for (int lane = 0; lane < 4; lane++) {
            KeyedFeelings x = listener();
            Edges.fill(x, 0, lane, 1, 2, 3);
            edges.due("the first", x.item(0, lane, 0, 11), 1);
            edges.due("the last", x.item(0, lane, 2, 13), 1);
            items("those alone", x, 0, lane, 11, 2, 13);
            x.item(0, lane, 1, -1);
            items("-1 is none of 0 .. 30", x, 0, lane, 11, -1, 13);
            if (lane < 3) {
                x.item(0, lane, 0, 5 + AROUND[lane]);
                x.item(0, lane, 1, 6 - AROUND[lane]);
                x.item(0, lane, 2, 7 + AROUND[lane] / 2);
                items("around", x, 0, lane, 5, 6, -1);
                x.item(0, lane, 0, Long.MIN_VALUE);
                x.item(0, lane, 1, Long.MAX_VALUE);
                items("the lowest bits of the least and of the most", x, 0, lane, 0, -1);
            }
        }
        KeyedFeelings longs = listener();
        Edges.fill(longs, 0, 3, 5 + (1L << 32), 5 - (1L << 32), Long.MIN_VALUE, Long.MAX_VALUE, 5 + (1L << 62));
        items("longs have all bits", longs, 0, 3, -1, -1, -1, -1, -1);
        asInts();
    }

    /** A byte of 200 is -56, and a short or an int of that much is not. */
    private void asInts() {
        for (int lane = 0; lane < 4; lane++) {
            KeyedFeelings x = listener();
            Edges.fill(x, 0, lane, 256, 65536, 1L << 32);
            items("256, 65536 and 2 to the 32nd in lane " + lane, x, 0, lane, lane == 0 ? 0 : -1, lane < 2 ? 0 : -1,
                lane < 3 ? 0 : -1);
        }
    }

    private void itemRefused() {
        edges.says(32, "BAD; NULL; CAST; INDEX.");
        KeyedFeelings x = listener();
        x.sheet(1, 2, 24);
        x.sheet(2, 2, 0);
        int[][] bad = {{-1, 2}, {4, 2}, {1, -1}, {1, 4}, {Edges.LEAST, 2}, {Edges.MOST, 2}, {1, Edges.LEAST}, {1, Edges.MOST}};
        for (int[] each : bad) {
            edges.due("item(" + each[0] + ", " + each[1] + ", ..)", x.item(each[0], each[1], 0, 1), Edges.BAD);
        }
        edges.due("item of nothing", x.item(0, 2, 0, 1), Edges.NULL);
        int[] lanes = {0, 1, 3};
        for (int lane : lanes) {
            edges.due("item as of lane " + lane, x.item(1, lane, 0, 1), Edges.CAST);
        }
        int[] index = {-1, 24, Edges.LEAST, Edges.MOST};
        for (int i : index) {
            edges.due("item " + i, x.item(1, 2, i, 1), Edges.INDEX);
        }
        edges.due("item of an empty row", x.item(2, 2, 0, 1), Edges.INDEX);
    }

    private void copy() {
        edges.says(33, "n items of a SHEET from i on come to another one (or the same) from j on, as if all were taken ahead: n.");
        for (int lane = 0; lane < 4; lane++) {
            KeyedFeelings x = listener();
            Edges.fill(x, 0, lane, 1, 2, 3, 4, 5);
            Edges.fill(x, 1, lane, 6, 7, 8);
            edges.due("of none", x.copy(0, 0, 1, 0, 0), 0);
            edges.due("of none at the ends", x.copy(0, 5, 1, 3, 0), 0);
            items("of none", x, 1, lane, 6, 7, 8);
            edges.due("the last to the first", x.copy(0, 4, 1, 0, 1), 1);
            items("the last to the first", x, 1, lane, 5, 7, 8);
            edges.due("a whole row", x.copy(1, 0, 0, 2, 3), 3);
            items("a whole row", x, 0, lane, 1, 2, 5, 7, 8);
            items("it stays where it was", x, 1, lane, 5, 7, 8);
            edges.due("up in the same", x.copy(0, 0, 0, 1, 4), 4);
            items("up in the same", x, 0, lane, 1, 1, 2, 5, 7);
            edges.due("down in the same", x.copy(0, 1, 0, 0, 4), 4);
            items("down in the same", x, 0, lane, 1, 2, 5, 7, 7);
            edges.due("onto itself", x.copy(0, 0, 0, 0, 5), 5);
            items("onto itself", x, 0, lane, 1, 2, 5, 7, 7);
        }
        KeyedFeelings most = listener();
        most.sheet(2, 3, 24);
        most.sheet(3, 3, 24);
        most.item(2, 3, 23, 9);
        edges.due("24 items", most.copy(2, 0, 3, 0, 24), 24);
        edges.due("the last of them", most.heard(0, 3, 3, 23, 1, 1), 1 << 10);
        KeyedFeelings whole = listener();
        Edges.fill(whole, 0, 3, 5 + (1L << 40));
        Edges.fill(whole, 1, 3, 1);
        whole.copy(0, 0, 1, 0, 1);
        items("all bits of a long", whole, 1, 3, -1);
    }

    private void copyRefused() {
        edges.says(33, "BAD; NULL (either); CAST: of unlike LANES; INDEX.");
        KeyedFeelings x = listener();
        Edges.fill(x, 0, 1, 1, 2, 3, 4, 5);
        Edges.fill(x, 1, 1, 6, 7, 8);
        x.sheet(2, 2, 5);
        int[][] bad = {{-1, 0}, {4, 0}, {0, -1}, {0, 4}, {Edges.LEAST, 0}, {Edges.MOST, 0}, {0, Edges.LEAST}, {0, Edges.MOST},
            {3, 4}, {4, 3}};
        for (int[] each : bad) {
            edges.due("copy(" + each[0] + ", 0, " + each[1] + ", 0, 1)", x.copy(each[0], 0, each[1], 0, 1), Edges.BAD);
        }
        edges.due("of nothing", x.copy(3, 0, 0, 0, 1), Edges.NULL);
        edges.due("to nothing", x.copy(0, 0, 3, 0, 1), Edges.NULL);
        edges.due("of nothing to nothing", x.copy(3, 0, 3, 0, 0), Edges.NULL);
        edges.due("of shorts to ints", x.copy(0, 0, 2, 0, 1), Edges.CAST);
        edges.due("of ints to shorts, of none", x.copy(2, 0, 0, 0, 0), Edges.CAST);
        int[][] index = {{-1, 0, 1}, {0, -1, 1}, {-1, 0, 0}, {0, -1, 0}, {0, 0, -1}, {0, 0, 4}, {5, 0, 1}, {0, 3, 1}, {6, 0, 0},
            {0, 4, 0}, {3, 0, 3}, {0, 1, 3}, {1, 1, Edges.LEAST}, {1, 1, Edges.MOST}, {Edges.MOST, 0, 1}, {0, Edges.MOST, 1},
            {Edges.MOST, 0, 0}, {Edges.LEAST, 0, 1}, {0, Edges.LEAST, 1}, {Edges.MOST, Edges.MOST, Edges.MOST},
            {Edges.LEAST, 0, Edges.MOST}};
        for (int[] each : index) {
            String call = "copy(0, " + each[0] + ", 1, " + each[1] + ", " + each[2] + ")";
            edges.due(call, x.copy(0, each[0], 1, each[1], each[2]), Edges.INDEX);
        }
        items("what is refused changes nothing", x, 1, 1, 6, 7, 8);
    }

    private void heardRows() {
        edges.says(Edges.TERMS, "HEARD: a row tells TURNS of one behind each of the next n HOURS (1 .. 8)");
        KeyedFeelings x = listener();
        Edges.fill(x, 0, 2, 9, 8, 7, 6, 5, 4, 3, 2, 1);
        for (int n = 1; n <= 8; n++) {
            edges.due("n " + n, x.heard(0, 0, 2, 0, n, 1), 1 << 10);
            x.item(0, 2, n - 1, 29);
            edges.due("the last of n " + n, x.heard(0, 0, 2, 0, n, 1), n == 1 ? 1 << 30 : 0);
            x.item(0, 2, n - 1, 10 - n);
            edges.due("the one behind it does not matter", x.heard(0, 0, 2, 8 - n, n, 1), 1 << 2 + n);
        }
        edges.due("n 0", x.heard(0, 0, 2, 0, 0, 1), Edges.BAD);
        edges.due("n 9", x.heard(0, 0, 2, 0, 9, 1), Edges.BAD);
    }

    private void heardKinds() {
        edges.says(Edges.TERMS, "KINDS (a set) of him by which it would be so");
        KeyedFeelings x = Edges.atHour(1);
        x.person(0, 9);
        long[][] rows = {{8, 7, 6}, {8, 6, 5}, {8, 7, 7}, {7, 5, 5}, {8}, {9}, {10}, {6, 4}};
        int[] due = {1, 2 + 8, 4, 16, 1 + 2 + 4 + 8, 0, 0, 0};
        for (int each = 0; each < rows.length; each++) {
            Edges.fill(x, 0, 1, rows[each]);
            edges.due("row " + each, x.heard(0, 0, 1, 0, rows[each].length, 0), due[each]);
        }
        x.person(0, 0);
        x.tell(0, 1);
        Edges.fill(x, 0, 1, 6, 2);
        edges.due("by one who is stopped", x.heard(0, 0, 1, 0, 2, 0), 8);
        x.tell(1, 0);
        Edges.fill(x, 0, 1, 8, 7, 7);
        edges.due("by one who winds him", x.heard(0, 0, 1, 0, 3, 0), 4 + 16);
        KeyedFeelings stopped = Check.of("l0");
        Edges.fill(stopped, 0, 0, 0);
        edges.due("all, of a stopped one", stopped.heard(0, 0, 0, 0, 1, 0), 31);
    }

    private void heardTurns() {
        edges.says(Edges.TERMS, "TURNS (0 .. 30, a set) in him now");
        KeyedFeelings x = listener();
        Edges.fill(x, 0, 1, 0, 29, 30, -1, 31);
        edges.due("0: of 0, of 1", x.heard(0, 0, 1, 0, 1, 1), 3);
        edges.due("29: of 30", x.heard(0, 0, 1, 1, 1, 1), 1 << 30);
        edges.due("30: none", x.heard(0, 0, 1, 2, 1, 1), 0);
        edges.due("-1: none", x.heard(0, 0, 1, 3, 1, 1), 0);
        edges.due("31: none", x.heard(0, 0, 1, 4, 1, 1), 0);
        KeyedFeelings tender = Check.of("t3");
        Edges.fill(tender, 0, 0, 30, 0, 31);
        edges.due("30 in an hour of none", tender.heard(0, 0, 0, 0, 1, 1), 1 << 30);
        edges.due("0 in an hour of none", tender.heard(0, 0, 0, 1, 1, 1), 1);
        edges.due("31 in an hour of none", tender.heard(0, 0, 0, 2, 1, 1), 0);
        KeyedFeelings wound = Check.of("t3,g9>0:12");
        Edges.fill(wound, 0, 0, 30);
        edges.due("30 at most: of 18 .. 30", wound.heard(0, 0, 0, 0, 1, 1), Edges.MOST - ((1 << 18) - 1));
        KeyedFeelings whole = Check.of("t3,g9>0:12,g9>0:12,g9>0:12");
        Edges.fill(whole, 0, 0, 30);
        edges.due("all of them", whole.heard(0, 0, 0, 0, 1, 1), Edges.MOST);
    }

    private void heardKeys() {
        edges.says(Edges.TERMS, "KEYS (1 .. 12, a set) of a told other one (or of him).");
        KeyedFeelings x = Check.of("t3,g9>0:5,p30>3:2,g0,g9");
        Edges.fill(x, 0, 0, 4, 15, 3, 16);
        edges.due("4: a key of 1", x.heard(0, 0, 0, 0, 1, 3), 1 << 1);
        edges.due("15: a key of 12", x.heard(0, 0, 0, 1, 1, 3), 1 << 12);
        edges.due("3: none", x.heard(0, 0, 0, 2, 1, 3), 0);
        edges.due("16: none", x.heard(0, 0, 0, 3, 1, 3), 0);
        edges.due("of one who does not matter, as it is not so", x.heard(0, 0, 0, 0, 1, 6), 0);
        x.film(0, 2, 0, 0, 0);
        edges.due("of one who does not matter", x.heard(0, 0, 0, 0, 2, 6), 8190);
        edges.due("of the one who winds him", x.heard(0, 0, 0, 0, 2, 3), 1 << 5);
        Edges.fill(x, 1, 2, 28, 27, 23);
        edges.due("of him, by his pity: the other one lasts for 1 hour more", x.heard(2, 1, 2, 0, 2, 4), 8190 - 2);
        edges.due("of him, by his pity: and no more", x.heard(2, 1, 2, 0, 3, 4), 1 << 2);
        Edges.fill(x, 1, 2, 28, 27, 25, 22);
        edges.due("of him, by his pity: 3 hours", x.heard(2, 1, 2, 0, 4, 4), 1 << 3);
        Edges.fill(x, 1, 2, 28, 25);
        edges.due("of him, by his pity: 1 hour", x.heard(2, 1, 2, 0, 2, 4), 1 << 1);
    }

    private void heard() {
        edges.says(28, "HEARD of one by n items of a SHEET taken as a row of a LANE, from item i on: KINDS (what 0), TURNS (1) of him, KEYS "
            + "of another one (2 and his number; or his own).");
        for (int lane = 0; lane < 4; lane++) {
            KeyedFeelings x = Check.of("g9,g9>0:3,g9,g9,g9,g9");
            Edges.fill(x, 3, lane, 1, 1, 11, 10);
            edges.due("from item 2 on, kinds", x.heard(0, 3, lane, 2, 2, 0), 1);
            edges.due("from item 2 on, turns", x.heard(0, 3, lane, 2, 2, 1), 1 << 9);
            edges.due("his own keys", x.heard(0, 3, lane, 2, 2, 2), 8190);
            edges.due("keys of 1", x.heard(0, 3, lane, 2, 2, 3), 1 << 3);
            edges.due("keys of 5, the last", x.heard(0, 3, lane, 2, 2, 7), 8190);
            edges.due("from item 1 on", x.heard(0, 3, lane, 1, 2, 1), 0);
        }
    }

    private void heardRefused() {
        edges.says(28, "BAD; NULL; CAST; INDEX.");
        KeyedFeelings x = Check.of("g9,g9>0:3");
        x.sheet(0, 2, 8);
        x.sheet(2, 2, 0);
        int[][] bad = {{-1, 0, 2, 0, 1, 0}, {2, 0, 2, 0, 1, 0}, {Edges.LEAST, 0, 2, 0, 1, 0}, {Edges.MOST, 0, 2, 0, 1, 0},
            {0, -1, 2, 0, 1, 0}, {0, 4, 2, 0, 1, 0}, {0, 0, -1, 0, 1, 0}, {0, 0, 4, 0, 1, 0}, {0, 0, 2, 0, 0, 0},
            {0, 0, 2, 0, 9, 0}, {0, 0, 2, 0, -1, 0}, {0, 0, 2, 0, Edges.MOST, 0}, {0, 0, 2, 0, 1, -1}, {0, 0, 2, 0, 1, 4},
            {0, 0, 2, 0, 1, Edges.LEAST}, {0, 0, 2, 0, 1, Edges.MOST}, {0, 1, 2, 0, 9, 0}, {0, 1, 3, -1, 1, 4}};
        for (int[] a : bad) {
            String call = "heard" + java.util.Arrays.toString(a);
            edges.due(call, x.heard(a[0], a[1], a[2], a[3], a[4], a[5]), Edges.BAD);
        }
        edges.due("heard of nobody", new KeyedFeelings().heard(0, 0, 0, 0, 1, 0), Edges.BAD);
        edges.due("of nothing", x.heard(0, 1, 2, 0, 1, 0), Edges.NULL);
        edges.due("as of another lane", x.heard(0, 0, 1, 0, 1, 0), Edges.CAST);
        int[][] index = {{-1, 1}, {8, 1}, {7, 2}, {1, 8}, {-1, 8}, {Edges.LEAST, 1}, {Edges.MOST, 1}, {Edges.MOST, 8}};
        for (int[] each : index) {
            edges.due("items " + each[0] + ", " + each[1], x.heard(0, 0, 2, each[0], each[1], 0), Edges.INDEX);
        }
        edges.due("of an empty row", x.heard(0, 2, 2, 0, 1, 0), Edges.INDEX);
        edges.due("the last item", x.heard(0, 0, 2, 7, 1, 1), 0);
        edges.due("all eight items", x.heard(0, 0, 2, 0, 8, 1), 0);
    }

    private void film() {
        edges.says(29, "TURNS of one behind 1, 2, .. n HOURS (1 .. 24), an item each, comes to a SHEET likewise: n.");
        for (int lane = 0; lane < 4; lane++) {
            KeyedFeelings x = Edges.atHour(1);
            x.person(0, 20);
            x.person(0, 30);
            Edges.fill(x, 0, lane, 1, 1, 1, 1);
            edges.due("film of 1", x.film(0, 1, 0, lane, 1), 1);
            items("film of 1", x, 0, lane, 1, 19, 1, 1);
            edges.due("film of 3 to the end", x.film(1, 3, 0, lane, 1), 3);
            items("film of 3 to the end", x, 0, lane, 1, 29, 28, 27);
            x.sheet(1, lane, 24);
            edges.due("film of 24", x.film(0, 24, 1, lane, 0), 24);
            items("film of 24", x, 1, lane, 19, 18, 17, 16, 15, 14, 13, 12, 11, 10, 9, 8, 7, 6, 5, 4, 3, 2, 1, 0, 0, 0, 0, 0);
        }
        KeyedFeelings late = Edges.atHour(9999);
        late.person(0, 9);
        late.sheet(0, 0, 24);
        edges.due("beyond the last hour", late.film(0, 24, 0, 0, 0), 24);
        edges.due("the hour stays", late.count(1), 9999);
    }

    private void filmRefused() {
        edges.says(29, "BAD; NULL; CAST; INDEX.");
        KeyedFeelings x = listener();
        Edges.fill(x, 0, 2, 5, 6, 7);
        x.sheet(2, 2, 0);
        x.sheet(3, 1, 24);
        int[][] bad = {{-1, 1, 0, 2, 0}, {1, 1, 0, 2, 0}, {Edges.LEAST, 1, 0, 2, 0}, {Edges.MOST, 1, 0, 2, 0}, {0, 0, 0, 2, 0},
            {0, 25, 0, 2, 0}, {0, -1, 0, 2, 0}, {0, Edges.LEAST, 0, 2, 0}, {0, Edges.MOST, 0, 2, 0}, {0, 1, -1, 2, 0},
            {0, 1, 4, 2, 0}, {0, 1, 0, -1, 0}, {0, 1, 0, 4, 0}, {0, 25, 1, 3, -1}, {0, 0, 1, 3, -1}};
        for (int[] a : bad) {
            edges.due("film" + java.util.Arrays.toString(a), x.film(a[0], a[1], a[2], a[3], a[4]), Edges.BAD);
        }
        edges.due("film of nobody", new KeyedFeelings().film(0, 1, 0, 0, 0), Edges.BAD);
        edges.due("to nothing", x.film(0, 1, 1, 2, 0), Edges.NULL);
        edges.due("to another lane", x.film(0, 1, 0, 1, 0), Edges.CAST);
        int[][] index = {{1, -1}, {1, 3}, {2, 2}, {4, 0}, {24, 0}, {1, Edges.LEAST}, {1, Edges.MOST}, {24, Edges.MOST}};
        for (int[] each : index) {
            edges.due("n " + each[0] + " from " + each[1], x.film(0, each[0], 0, 2, each[1]), Edges.INDEX);
        }
        edges.due("24 from 1", x.film(0, 24, 3, 1, 1), Edges.INDEX);
        edges.due("to an empty row", x.film(0, 1, 2, 2, 0), Edges.INDEX);
        items("what is refused changes nothing", x, 0, 2, 5, 6, 7);
        edges.due("just as many as there are", x.film(0, 3, 0, 2, 0), 3);
    }
}
