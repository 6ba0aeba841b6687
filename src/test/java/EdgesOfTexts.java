/** What is told of a close as a text, and promises 4 and 5. */
final class EdgesOfTexts {
    private static final int FAULT = -20;
    private static final String FULL_TEXT = "g30>1:12,c30>2:12,t30>3:12,p30>4:12,l30>5:12,g30>0:12       ";
    private final Edges edges;

    EdgesOfTexts(Edges edges) {
        this.edges = edges;
    }

    void all() {
        type();
        close();
        oneToSix();
        kindsAndTurns();
        winding();
        inPlaceOfAll();
        somebodyThereIsNot();
        digits();
        faults();
        blanks();
    }

    private void text(String text, int due) {
        edges.due("close of '" + text + "'", Check.close(new KeyedFeelings(), text), due);
    }

    private void fault(String text, int place) {
        text(text, FAULT - place);
    }

    private void type() {
        edges.says(4, "One letter more behind THE TAPE: how many it has.");
        KeyedFeelings x = new KeyedFeelings();
        edges.due("the first", x.type('g'), 1);
        edges.due("the second", x.type('7'), 2);
        edges.due("it stands behind the first", x.close(), 1);
        edges.due("and is read as it came", x.of(0, 1), 7);
        edges.says(4, "BAD: not 32 .. 126; FULL: 60.");
        int[] bad = {31, 127, 0, -1, -32, 128, 359, 65536 + 'g', Edges.LEAST, Edges.MOST};
        for (int letter : bad) {
            edges.due("type(" + letter + ")", x.type(letter), Edges.BAD);
        }
        edges.due("type(32)", x.type(32), 1);
        edges.due("type(126)", x.type(126), 2);
        for (int has = 3; has <= 60; has++) {
            edges.due("type", x.type('g'), has);
        }
        edges.due("a 61st", x.type('g'), Edges.FULL);
        edges.due("a 62nd", x.type('g'), Edges.FULL);
        edges.due("close()", x.close(), FAULT - 1);
        edges.due("the first again", x.type('g'), 1);
    }

    private void close() {
        edges.says(5, "THE TAPE, which is empty then, is a CLOSE: how many PEOPLE.");
        KeyedFeelings x = new KeyedFeelings();
        edges.due("a full tape", Check.close(x, FULL_TEXT), 6);
        edges.due("it is 60 letters", FULL_TEXT.length(), 60);
        edges.due("it is empty then", x.type('g'), 1);
        edges.due("a close of what was typed since", x.close(), FAULT - 1);
        edges.says(5, "A FAULT (all else stays).");
        KeyedFeelings twin = new KeyedFeelings();
        Check.close(twin, FULL_TEXT);
        edges.due("an empty tape", x.close(), FAULT);
        edges.due("a fault in the last of six", Check.close(x, "c1,c1,c1,c1,c1,c1>5:1"), FAULT - 18);
        edges.due("the tape is empty behind a fault, too", x.type('g'), 1);
        x.close();
        edges.same("all else", Seen.all(x), Seen.all(twin));
    }

    private void oneToSix() {
        edges.says(Edges.TERMS, "A CLOSE is a TEXT: 1 to 6 PEOPLE with , between");
        fault("", 0);
        fault("    ", 4);
        text("g1", 1);
        text("g1,g1", 2);
        text("g1,g1,g1,g1,g1,g1", 6);
        fault("g1,g1,g1,g1,g1,g1,g1", 17);
        fault("g1,g1,g1,g1,g1,g1,", 17);
        fault(",", 0);
        fault(",g1", 0);
        fault("g1,", 3);
        fault("g1,,g1", 3);
        fault("g1g1", 2);
        fault("g1;g1", 2);
        fault("g1>1:1g1", 6);
    }

    private void kindsAndTurns() {
        edges.says(Edges.TERMS, "g c t p l (GLAD, CONCERN, TENDER, PITY, LONE), a number 0 .. 30 (TURNS)");
        KeyedFeelings x = Check.of("g0,c1,t9,p10,l29,g30");
        int[][] due = {{0, 0}, {1, 1}, {2, 9}, {3, 10}, {4, 29}, {0, 30}};
        for (int person = 0; person < 6; person++) {
            edges.due("kind of " + person, x.of(person, 0), due[person][0]);
            edges.due("turns of " + person, x.of(person, 1), due[person][1]);
        }
        String others = "abdefhijkmnoqrsuvwxyzGCTPL0>:~!";
        for (int i = 0; i < others.length(); i++) {
            fault(others.charAt(i) + "1", 0);
        }
        fault("g31", 1);
        fault("g39", 1);
        fault("g40", 1);
        fault("g99", 1);
        fault("g-1", 1);
        fault("g/", 1);
        fault("g:", 1);
        fault("g1/", 2);
        fault("g,", 1);
        fault("g>1:1", 1);
        fault("g", 1);
    }

    private void winding() {
        edges.says(Edges.TERMS, "then perhaps > and a digit 0 .. 5 (whom one WINDS; not himself), : and a number 1 .. 12 (KEY) "
            + "behind that (else none, KEY 1)");
        KeyedFeelings x = Check.of("g1>5:1,g1>0:12,g1,g1>2:9,g1>3:10,g1>0:2");
        int[][] due = {{5, 1}, {0, 12}, {Edges.NONE, 1}, {2, 9}, {3, 10}, {0, 2}};
        for (int person = 0; person < 6; person++) {
            edges.due("whom " + person + " winds", x.of(person, 2), due[person][0]);
            edges.due("key of " + person, x.of(person, 3), due[person][1]);
        }
        fault("g1>6:1,g1", 3);
        fault("g1>9:1,g1", 3);
        fault("g1>0:1,g1", 3);
        fault("g1,g1>1:1", 6);
        fault("g1,g1,g1,g1,g1,g1>5:1", 18);
        fault("g1>:1,g1", 3);
        fault("g1>x", 3);
        fault("g1>/:1,g1", 3);
        fault("g1>:", 3);
        fault("g1>-1:1", 3);
        fault("g1>", 3);
        fault("g1>1", 4);
        fault("g1>1,g1", 4);
        fault("g1>12:1,g1", 4);
        fault("g1>1:,g1", 5);
        fault("g1>1:", 5);
        fault("g1>1:0,g1", 5);
        fault("g1>1:13,g1", 5);
        fault("g1>1:20,g1", 5);
        fault("g1>1:99,g1", 5);
        fault("g1>1:-1,g1", 5);
        fault("g1:1,g1", 2);
        fault("g1>1:1:1,g1", 6);
        fault("g1>1:1>1:1,g1", 6);
    }

    private void inPlaceOfAll() {
        edges.says(Edges.TERMS, "in place of all; HOUR 0 (THE DRAW stays).");
        KeyedFeelings x = Check.of("g30>1:12,c20>2:7,t10>0:3,p9>0:2,l8>0:1,g7>0:9");
        x.hours(5);
        x.then(80);
        x.seed(4242);
        edges.due("close", Check.close(x, "l3,p4"), 2);
        edges.due("count(0)", x.count(0), 2);
        edges.due("count(1)", x.count(1), 0);
        edges.due("none are told", x.of(0, 2), Edges.NONE);
        edges.due("key", x.of(0, 3), 1);
        edges.due("who winds him", x.of(0, 5), 0);
        edges.due("kind", x.of(0, 0), 4);
        edges.due("turns", x.of(1, 1), 4);
        edges.due("no third", x.of(2, 1), Edges.BAD);
        edges.due("count(7)", x.count(7), 0);
        edges.due("the draw", x.seed(0), 4242);
        edges.due("it winds in this hour again", x.count(6), 1);
    }

    private void somebodyThereIsNot() {
        edges.says(Edges.TERMS, "One who WINDS somebody there is not at the end is a FAULT at the end, when all else is well.");
        fault("g1>1:1", 6);
        fault("g1>5:1,g1,g1,g1,g1", 18);
        text("g1>5:1,g1,g1,g1,g1,g1", 6);
        text("g1>1:1,g1", 2);
        fault("g1>2:1,g1", 9);
        fault("g1,g1>2:1", 9);
        fault("g1>1:1   ", 9);
        fault("g1>2:1,g1,x", 10);
        fault("g1>2:1,g31", 8);
        fault("g1>2:1,", 7);
        fault("g1>2:1,g1>1:1", 10);
    }

    private void digits() {
        edges.says(Edges.TERMS, "Numbers have 1 or 2 digits (a third one can't stand there).");
        text("g00", 1);
        text("g09", 1);
        text("g1>1:01,g1", 2);
        text("g1>1:12,g1", 2);
        fault("g000", 3);
        fault("g001", 3);
        fault("g300", 3);
        fault("g1>1:121,g1", 7);
        fault("g1>1:011,g1", 7);
        fault("g1>1:001,g1", 5);
        edges.due("turns of g09", Check.of("g09").of(0, 1), 9);
        edges.due("turns of g00", Check.of("g00").of(0, 1), 0);
        edges.due("key of 01", Check.of("g1>1:01,g1").of(0, 3), 1);
    }

    private void faults() {
        edges.says(Edges.TERMS, "FAULTS: -20 less the place of the first letter (behind blanks) that can't stand there, or of the "
            + "number's first digit, if it is not as told (the end: how many there are)");
        text("x", -20);
        text("gx", -21);
        text("xg31", -20);
        text("g31x", -21);
        text("g310", -21);
        text("g 31", -22);
        text("  x", -22);
        text("g1  x", -24);
        text("g1 ,  x", -26);
        text("g1>1:  13", -27);
        text("g1  ", 1);
        text("g  ", -23);
        text("g1,  ", -25);
        text(" ".repeat(60), -80);
        text(" ".repeat(59) + "x", -79);
        text(" ".repeat(58) + "g1", 1);
        text(" ".repeat(57) + "g31", -78);
    }

    private void blanks() {
        edges.says(Edges.TERMS, "blanks count for nothing, but end a number.");
        text("  g  1  >  1  :  1  2", -40);
        text(" g 1 > 1 : 12 , g 2 ", 2);
        text("g1 2", -23);
        text("g1>1:1 2,g1", -27);
        text("g3 0", -23);
        text("g0 ,c1", 2);
        KeyedFeelings x = Check.of(" g 1 > 1 : 12 , g 2 ");
        edges.due("turns", x.of(0, 1), 1);
        edges.due("whom he winds", x.of(0, 2), 1);
        edges.due("key", x.of(0, 3), 12);
        edges.due("turns", x.of(1, 1), 2);
    }
}
