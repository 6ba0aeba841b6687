import java.math.BigInteger;
import java.util.function.Supplier;

/** The terms ahead of section 1: which refusal is answered, and that it changes nothing. */
final class EdgesOfTerms {
    private final Edges edges;

    EdgesOfTerms(Edges edges) {
        this.edges = edges;
    }

    void all() {
        lastCall();
        constants();
        firstNamed();
        firstNamedOfMatch();
        whatTheMachineFinds();
        refusedPeople();
        refusedWhatIsDone();
        refusedForetold();
        refusedSheets();
        butAsTold();
        sets();
        divided();
    }

    private void lastCall() {
        edges.says("What it is", "An object is used for at most 512 calls after it has been made");
        KeyedFeelings x = new KeyedFeelings();
        x.person(2, 30);
        for (int call = 2; call < 512; call++) {
            edges.due("lend, call " + call, x.lend(0, 0), Edges.BAD);
        }
        edges.due("hours(48), call 512", x.hours(48), 1);
    }

    private void constants() {
        edges.says(Edges.TERMS, "BAD -1 (a number is not as told, there is no such thing), NOT -2 (as told), FULL -3, NONE -4 "
            + "(as told), CAST -12 (of SHEETS another LANE); what the machine finds: NULL -11, INDEX -13, SIZE -14");
        int[] got = {KeyedFeelings.BAD, KeyedFeelings.NOT, KeyedFeelings.FULL, KeyedFeelings.NONE, KeyedFeelings.CAST,
            KeyedFeelings.NULL, KeyedFeelings.INDEX, KeyedFeelings.SIZE};
        int[] want = {-1, -2, -3, -4, -12, -11, -13, -14};
        for (int each = 0; each < want.length; each++) {
            edges.due("constant " + each, got[each], want[each]);
        }
    }

    private void firstNamed() {
        edges.says(Edges.TERMS, "Answers below 0, of several the first that a call names");
        KeyedFeelings six = Check.of("g30>1:4,g1,g1,g1,g1,g1");
        edges.due("person(5, 0) of 6: BAD ahead of FULL", six.person(5, 0), Edges.BAD);
        edges.due("person(0, 31) of 6: BAD ahead of FULL", six.person(0, 31), Edges.BAD);
        edges.due("lend(0, 31) of 30: BAD ahead of NOT", six.lend(0, 31), Edges.BAD);
        edges.due("lend(0, 0) of 30: BAD ahead of NOT", six.lend(0, 0), Edges.BAD);
        KeyedFeelings tape = new KeyedFeelings();
        for (int each = 0; each < 60; each++) {
            tape.type('g');
        }
        edges.due("type(127) of 60: BAD ahead of FULL", tape.type(127), Edges.BAD);
        KeyedFeelings late = Edges.atHour(9999);
        edges.due("hours(49) in 9999: BAD ahead of FULL", late.hours(49), Edges.BAD);
        edges.due("hours(0) in 9999: BAD ahead of FULL", late.hours(0), Edges.BAD);
        edges.due("drift(49) in 9999: BAD ahead of FULL", late.drift(49), Edges.BAD);
        edges.due("sheet(4, 0, -1): BAD ahead of SIZE", late.sheet(4, 0, -1), Edges.BAD);
        edges.due("sheet(0, 4, -1): BAD ahead of SIZE", late.sheet(0, 4, -1), Edges.BAD);
        edges.due("drop(4): BAD ahead of NULL", late.drop(4), Edges.BAD);
        edges.due("item(3, 4, ..): BAD ahead of NULL", late.item(3, 4, -1, 0), Edges.BAD);
        edges.due("copy(3, .., 4, ..): BAD ahead of NULL", late.copy(3, -1, 4, -1, -1), Edges.BAD);
        edges.due("heard, nobody there: BAD ahead of NULL", late.heard(0, 3, 0, -1, 1, 0), Edges.BAD);
        edges.due("film, nobody there: BAD ahead of NULL", late.film(0, 1, 3, 0, -1), Edges.BAD);
    }

    /** match names NONE ahead of BAD, and by its state alone; the others name NONE as what is found for numbers as told. */
    private void firstNamedOfMatch() {
        edges.says(23, "NONE: there is one alone, or nobody. BAD: no such one, below -1, too.");
        KeyedFeelings alone = Check.of("g1");
        int[] persons = {-1, 0, 1, -2, 6, Edges.LEAST, Edges.MOST};
        for (int person : persons) {
            edges.due("match(" + person + ") of one alone", alone.match(person), Edges.NONE);
            edges.due("match(" + person + ") of nobody", new KeyedFeelings().match(person), Edges.NONE);
        }
        KeyedFeelings two = Check.of("g1,g1");
        edges.due("match(1) of two", two.match(1), 0);
        edges.due("match(2) of two", two.match(2), Edges.BAD);
        edges.due("match(-2) of two", two.match(-2), Edges.BAD);
        edges.due("match(-4) of two", two.match(Edges.NONE), Edges.BAD);
        edges.due("match(least) of two", two.match(Edges.LEAST), Edges.BAD);
        edges.due("match(most) of two", two.match(Edges.MOST), Edges.BAD);
    }

    private void whatTheMachineFinds() {
        edges.says(Edges.TERMS, "what the machine finds: NULL -11, INDEX -13, SIZE -14 (NULL, CAST, INDEX, SIZE in this order)");
        KeyedFeelings x = Check.of("g9");
        x.sheet(0, 2, 3);
        x.sheet(1, 1, 3);
        edges.due("item of nothing, of no lane of it, of no place", x.item(3, 2, 9, 0), Edges.NULL);
        edges.due("item of another lane, of no place", x.item(0, 3, 9, 0), Edges.CAST);
        edges.due("item of no place", x.item(0, 2, 9, 0), Edges.INDEX);
        edges.due("heard of nothing", x.heard(0, 3, 2, 9, 1, 0), Edges.NULL);
        edges.due("heard of another lane", x.heard(0, 0, 3, 9, 1, 0), Edges.CAST);
        edges.due("heard of no place", x.heard(0, 0, 2, 9, 1, 0), Edges.INDEX);
        edges.due("film to nothing", x.film(0, 4, 3, 2, 9), Edges.NULL);
        edges.due("film to another lane", x.film(0, 4, 0, 3, 9), Edges.CAST);
        edges.due("film to no place", x.film(0, 4, 0, 2, 9), Edges.INDEX);
        edges.due("copy of nothing", x.copy(3, 9, 0, 9, 9), Edges.NULL);
        edges.due("copy to nothing", x.copy(0, 9, 3, 9, 9), Edges.NULL);
        edges.due("copy to another lane", x.copy(0, 9, 1, 9, 9), Edges.CAST);
        edges.due("copy of no place", x.copy(0, 9, 0, 9, 9), Edges.INDEX);
        edges.due("a row of less than nothing", x.sheet(0, 2, -1), Edges.SIZE);
    }

    /** Some of all: turns, a ring, a past that was longer than 8, an image, a tape, sheets of two lanes. */
    private static KeyedFeelings full() {
        KeyedFeelings x = Check.of("g30>1:4,p8>0:3,l5");
        x.seed(77);
        x.drift(9);
        x.image();
        x.cut(2, 9);
        x.lend(0, 30);
        x.type('x');
        Edges.fill(x, 0, 2, 4, 5, 6);
        Edges.fill(x, 1, 0, 7, 8);
        x.sheet(2, 2, 0);
        return x;
    }

    private static KeyedFeelings six() {
        KeyedFeelings x = Check.of("g1>1:1,g2,g3,g4,g5,g6");
        x.hours(2);
        for (int each = 0; each < 60; each++) {
            x.type('g');
        }
        return x;
    }

    private static KeyedFeelings late() {
        KeyedFeelings x = Edges.atHour(9990);
        x.person(0, 30);
        x.hours(8);
        return x;
    }

    private void refusedPeople() {
        edges.says(Edges.TERMS, "What is refused changes nothing");
        Supplier<KeyedFeelings> twins = EdgesOfTerms::full;
        edges.unchanged("person(-1, 0)", twins, x -> x.person(-1, 0), Edges.BAD);
        edges.unchanged("person(0, 31)", twins, x -> x.person(0, 31), Edges.BAD);
        edges.unchanged("person(0, 0) of 6", EdgesOfTerms::six, x -> x.person(0, 0), Edges.FULL);
        edges.unchanged("of(3, 0)", twins, x -> x.of(3, 0), Edges.BAD);
        edges.unchanged("of(0, 6)", twins, x -> x.of(0, 6), Edges.BAD);
        edges.unchanged("type(31)", twins, x -> x.type(31), Edges.BAD);
        edges.unchanged("type(32) of 60", EdgesOfTerms::six, x -> x.type(32), Edges.FULL);
        edges.unchanged("count(8)", twins, x -> x.count(8), Edges.BAD);
    }

    private void refusedWhatIsDone() {
        edges.says(Edges.TERMS, "What is refused changes nothing");
        Supplier<KeyedFeelings> twins = EdgesOfTerms::full;
        edges.unchanged("hours(49)", twins, x -> x.hours(49), Edges.BAD);
        edges.unchanged("hours(2) in 9998", EdgesOfTerms::late, x -> x.hours(2), Edges.FULL);
        edges.unchanged("lend(3, 1)", twins, x -> x.lend(3, 1), Edges.BAD);
        edges.unchanged("lend(1, 31)", twins, x -> x.lend(1, 31), Edges.BAD);
        edges.unchanged("lend(0, 1) of 30", twins, x -> x.lend(0, 1), Edges.NOT);
        edges.unchanged("tell(0, 0)", twins, x -> x.tell(0, 0), Edges.BAD);
        edges.unchanged("tell(0, 1), as it is", twins, x -> x.tell(0, 1), Edges.NOT);
        edges.unchanged("tell(2, NONE), as it is", twins, x -> x.tell(2, Edges.NONE), Edges.NOT);
        edges.unchanged("cut(0, 13)", twins, x -> x.cut(0, 13), Edges.BAD);
        edges.unchanged("cut(0, 4), as it is", twins, x -> x.cut(0, 4), Edges.NOT);
        edges.unchanged("drift(0)", twins, x -> x.drift(0), Edges.BAD);
        edges.unchanged("drift(2) in 9998", EdgesOfTerms::late, x -> x.drift(2), Edges.FULL);
        edges.unchanged("undo() of nothing", () -> Check.of("g3,c4"), KeyedFeelings::undo, Edges.NONE);
        edges.unchanged("seed(-1)", twins, x -> x.seed(-1), Edges.BAD);
        edges.unchanged("restore() of nothing", () -> Check.of("g3,c4"), KeyedFeelings::restore, Edges.NONE);
    }

    private void refusedForetold() {
        edges.says(Edges.TERMS, "What is refused changes nothing");
        Supplier<KeyedFeelings> twins = EdgesOfTerms::full;
        edges.unchanged("ahead(0, 81)", twins, x -> x.ahead(0, 81), Edges.BAD);
        edges.unchanged("then(81)", twins, x -> x.then(81), Edges.BAD);
        edges.unchanged("stops(3)", twins, x -> x.stops(3), Edges.BAD);
        edges.unchanged("chain(3, 0)", twins, x -> x.chain(3, 0), Edges.BAD);
        edges.unchanged("lends(41, 1, 0)", twins, x -> x.lends(41, 1, 0), Edges.BAD);
        edges.unchanged("instead(0, 41, 0)", twins, x -> x.instead(0, 41, 0), Edges.BAD);
        edges.unchanged("needs(0, 41)", twins, x -> x.needs(0, 41), Edges.BAD);
        edges.unchanged("match(3)", twins, x -> x.match(3), Edges.BAD);
        edges.unchanged("forget(0, 11, 0)", twins, x -> x.forget(0, 11, 0), Edges.BAD);
    }

    private void refusedSheets() {
        edges.says(Edges.TERMS, "What is refused changes nothing");
        Supplier<KeyedFeelings> twins = EdgesOfTerms::full;
        edges.unchanged("heard, bad", twins, x -> x.heard(0, 0, 2, 0, 9, 0), Edges.BAD);
        edges.unchanged("heard, null", twins, x -> x.heard(0, 3, 2, 0, 1, 0), Edges.NULL);
        edges.unchanged("heard, cast", twins, x -> x.heard(0, 0, 1, 0, 1, 0), Edges.CAST);
        edges.unchanged("heard, index", twins, x -> x.heard(0, 0, 2, 2, 2, 0), Edges.INDEX);
        edges.unchanged("film, bad", twins, x -> x.film(0, 25, 0, 2, 0), Edges.BAD);
        edges.unchanged("film, null", twins, x -> x.film(0, 2, 3, 2, 0), Edges.NULL);
        edges.unchanged("film, cast", twins, x -> x.film(0, 2, 0, 3, 0), Edges.CAST);
        edges.unchanged("film, index: not the items there are either", twins, x -> x.film(0, 2, 0, 2, 2), Edges.INDEX);
        edges.unchanged("sheet, bad", twins, x -> x.sheet(0, 0, 25), Edges.BAD);
        edges.unchanged("sheet, size", twins, x -> x.sheet(0, 0, -1), Edges.SIZE);
        edges.unchanged("drop, bad", twins, x -> x.drop(4), Edges.BAD);
        edges.unchanged("drop, null", twins, x -> x.drop(3), Edges.NULL);
        edges.unchanged("item, bad", twins, x -> x.item(0, 4, 0, 9), Edges.BAD);
        edges.unchanged("item, null", twins, x -> x.item(3, 0, 0, 9), Edges.NULL);
        edges.unchanged("item, cast", twins, x -> x.item(0, 0, 0, 9), Edges.CAST);
        edges.unchanged("item, index", twins, x -> x.item(0, 2, 3, 9), Edges.INDEX);
        edges.unchanged("copy, bad", twins, x -> x.copy(0, 0, 4, 0, 1), Edges.BAD);
        edges.unchanged("copy, null", twins, x -> x.copy(3, 0, 0, 0, 1), Edges.NULL);
        edges.unchanged("copy, cast", twins, x -> x.copy(0, 0, 1, 0, 1), Edges.CAST);
        edges.unchanged("copy, index: not the items there are either", twins, x -> x.copy(0, 0, 0, 2, 2), Edges.INDEX);
    }

    private void butAsTold() {
        edges.says(Edges.TERMS, "What is refused changes nothing, but as told.");
        KeyedFeelings x = full();
        edges.due("close(), a fault", x.close(), -20);
        edges.due("the tape is empty then", x.type('g'), 1);
        x.close();
        KeyedFeelings twin = full();
        twin.close();
        edges.same("all else stays", Seen.all(x), Seen.all(twin));
        KeyedFeelings typed = full();
        KeyedFeelings blank = full();
        typed.close();
        blank.close();
        Check.close(typed, "g3>1:1,c9>0:13");
        edges.same("all else stays behind a longer text", Seen.all(typed), Seen.all(blank));
    }

    private void sets() {
        edges.says(Edges.TERMS, "Sets are bits.");
        KeyedFeelings x = Check.of("g0>5:1,g1,g1,g1,g1,g0>0:1");
        edges.due("count(2): 0 and 5", x.count(2), 33);
        edges.due("count(4): 0 and 5", x.count(4), 33);
        edges.due("of(0, 5): 5", x.of(0, 5), 32);
        edges.due("of(5, 5): 0", x.of(5, 5), 1);
        edges.due("then(1): all", x.then(1), 63);
    }

    /** The seed whose next draw is the one told. */
    static int seedOf(long draw) {
        BigInteger modulus = BigInteger.ONE.shiftLeft(31);
        return BigInteger.valueOf(draw - 12345).multiply(BigInteger.valueOf(1103515245).modInverse(modulus)).mod(modulus)
            .intValueExact();
    }

    private void divided() {
        edges.says(Edges.TERMS, "What is divided is cut.");
        long[] draws = {0, 127, 128, 65535, 65536, 131071, 262143, 262144, 262271, 262272, 327679, 327680, 2147221504L,
            2147287039L, 2147287040L, 2147483647L};
        int[] lent = {0, 0, 1, 1, -1, -1, -1, 0, 0, 1, 1, -1, 0, 1, -1, -1};
        for (int each = 0; each < draws.length; each++) {
            KeyedFeelings x = Check.of("g5,g5");
            x.seed(seedOf(draws[each]));
            x.drift(1);
            edges.due("the draw", x.seed(0), draws[each]);
            edges.turns("draw " + draws[each], x, lent[each] == 0 ? 7 : 4, lent[each] == 1 ? 7 : 4);
        }
    }
}
