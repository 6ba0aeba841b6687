import java.math.BigInteger;
import java.util.ArrayDeque;
import java.util.ArrayList;
import java.util.Arrays;
import java.util.Collections;
import java.util.Comparator;
import java.util.Deque;
import java.util.List;
import java.util.function.UnaryOperator;
import java.util.stream.Collectors;
import java.util.stream.IntStream;

/**
 * The document once more, written apart from the class: moments that never change, lists and streams.
 * ModelTest compares the two over many runs.
 */
final class Model {
    static final int BAD = -1, NOT = -2, FULL = -3, NONE = -4, NULL = -11, CAST = -12, INDEX = -13, SIZE = -14;

    record One(int kind, int turns, int winds, int key) {
        boolean stopped() {
            return turns == 0;
        }

        One more(int n) {
            return new One(kind, Math.min(30, turns + n), winds, key);
        }

        One withTurns(int n) {
            return new One(kind, n, winds, key);
        }

        One told(int other) {
            return new One(kind, turns, other, key);
        }

        One withKey(int k) {
            return new One(kind, turns, winds, k);
        }

        One ofKind(int k) {
            return new One(k, turns, winds, key);
        }
    }

    record Moment(List<One> people, int hour, long draw) {
        Moment with(int person, UnaryOperator<One> change) {
            List<One> changed = new ArrayList<>(people);
            changed.set(person, change.apply(changed.get(person)));
            return new Moment(List.copyOf(changed), hour, draw);
        }

        int stoppedSet() {
            return IntStream.range(0, people.size()).filter(p -> people.get(p).stopped()).map(p -> 1 << p).sum();
        }

        int woundBySet(int person) {
            return IntStream.range(0, people.size()).filter(p -> people.get(p).winds() == person).map(p -> 1 << p).sum();
        }

        boolean winding() {
            return hour % 8 == 0;
        }

        boolean wouldWind(int person) {
            return winding() && !people.get(person).stopped() && people.get(person).winds() != NONE;
        }

        int runs(int person) {
            One one = people.get(person);
            if (one.stopped()) {
                return 0;
            }
            int glad = 1;
            int concern = glad + (hour % 2 == 0 ? 1 : 0);
            int tender = hour % 3 == 0 ? 0 : glad;
            boolean pitied = one.winds() != NONE && people.get(one.winds()).stopped();
            int[] byKind = {glad, concern, tender, concern + (pitied ? 2 : 0),
                woundBySet(person) == 0 ? tender * 2 : tender};
            return byKind[one.kind()];
        }

        Moment wound(int forgetting) {
            int[] gains = new int[people.size()];
            for (int p = 0; p < people.size(); p++) {
                if (wouldWind(p) && (forgetting >> p & 1) == 0) {
                    gains[people.get(p).winds()] += people.get(p).key();
                }
            }
            return new Moment(IntStream.range(0, people.size()).mapToObj(p -> people.get(p).more(gains[p]))
                .collect(Collectors.toList()), hour, draw);
        }

        Moment run() {
            return new Moment(IntStream.range(0, people.size())
                .mapToObj(p -> people.get(p).withTurns(Math.max(0, people.get(p).turns() - runs(p))))
                .collect(Collectors.toList()), hour + 1, draw);
        }

        Moment next() {
            return wound(0).run();
        }

        Moment behind(int n) {
            Moment m = this;
            for (int h = 0; h < n; h++) {
                m = m.next();
            }
            return m;
        }

        Moment drawn() {
            long d = BigInteger.valueOf(draw).multiply(BigInteger.valueOf(1103515245)).add(BigInteger.valueOf(12345))
                .mod(BigInteger.ONE.shiftLeft(31)).longValueExact();
            Moment m = new Moment(people, hour, d);
            return d / 65536 % 4 == 0 && !people.isEmpty() ? m.with((int) (d / 128 % people.size()), o -> o.more(3)) : m;
        }

        boolean[][] reach() {
            int n = people.size();
            boolean[][] r = new boolean[n][n];
            for (int p = 0; p < n; p++) {
                if (people.get(p).winds() != NONE) {
                    r[p][people.get(p).winds()] = true;
                }
            }
            for (int k = 0; k < n; k++) {
                for (int a = 0; a < n; a++) {
                    for (int b = 0; b < n; b++) {
                        r[a][b] |= r[a][k] && r[k][b];
                    }
                }
            }
            return r;
        }
    }

    private Moment now = new Moment(List.of(), 0, 1);
    private Deque<Moment> past = new ArrayDeque<>();
    private Moment kept = null;
    private Deque<Moment> keptPast = null;
    private final StringBuilder tape = new StringBuilder();
    private final Object[] sheets = new Object[4];

    private boolean no(int person) {
        return person < 0 || person >= now.people().size();
    }

    private static boolean out(int v, int least, int most) {
        return v < least || v > most;
    }

    private void done(Moment next) {
        past.addLast(now);
        if (past.size() > 8) {
            past.removeFirst();
        }
        now = next;
    }

    int person(int kind, int turns) {
        if (out(kind, 0, 4) || out(turns, 0, 30)) {
            return BAD;
        }
        if (now.people().size() == 6) {
            return FULL;
        }
        List<One> people = new ArrayList<>(now.people());
        people.add(new One(kind, turns, NONE, 1));
        now = new Moment(people, now.hour(), now.draw());
        past.clear();
        return people.size() - 1;
    }

    int of(int person, int what) {
        if (no(person) || out(what, 0, 5)) {
            return BAD;
        }
        One one = now.people().get(person);
        return new int[] {one.kind(), one.turns(), one.winds(), one.key(), now.runs(person), now.woundBySet(person)}[what];
    }

    int type(int letter) {
        if (out(letter, 32, 126)) {
            return BAD;
        }
        if (tape.length() == 60) {
            return FULL;
        }
        tape.append((char) letter);
        return tape.length();
    }

    int close() {
        String text = tape.toString();
        tape.setLength(0);
        List<One> people = new ArrayList<>();
        int fault = parse(text, people);
        if (fault >= 0) {
            return -20 - fault;
        }
        now = new Moment(people, 0, now.draw());
        past.clear();
        return people.size();
    }

    /** By states: what may come next, letter by letter; the place of the fault, or -1. */
    private static int parse(String text, List<One> people) {
        int state = 0; // 0 kind, 1 number first, 2 number second, 3 behind turns, 4 whom, 5 colon, 6 key first, 7 key second, 8 behind key
        int kind = 0, turns = 0, whom = NONE, key = 1, first = 0;
        for (int place = 0; place <= text.length(); place++) {
            int c = place < text.length() ? text.charAt(place) : -1;
            boolean digit = c >= '0' && c <= '9';
            if (state == 2 || state == 7) {
                int value = state == 2 ? turns : key;
                if (digit) {
                    value = value * 10 + c - '0';
                }
                if (state == 2 ? value > 30 : value < 1 || value > 12) {
                    return first;
                }
                if (state == 2) {
                    turns = value;
                } else {
                    key = value;
                }
                state++;
                if (digit) {
                    continue;
                }
            }
            if (c == ' ') {
                continue;
            }
            boolean ends = c == ',' && people.size() < 5 || c == -1;
            if (state == 0 && c >= 0 && "gctpl".indexOf(c) >= 0) {
                kind = "gctpl".indexOf(c);
                state = 1;
            } else if (state == 1 && digit) {
                turns = c - '0';
                first = place;
                state = 2;
            } else if (state == 3 && c == '>') {
                state = 4;
            } else if (state == 4 && c >= '0' && c <= '5' && c - '0' != people.size()) {
                whom = c - '0';
                state = 5;
            } else if (state == 5 && c == ':') {
                state = 6;
            } else if (state == 6 && digit) {
                key = c - '0';
                first = place;
                state = 7;
            } else if ((state == 3 || state == 8) && ends) {
                people.add(new One(kind, turns, whom, key));
                whom = NONE;
                key = 1;
                state = 0;
            } else {
                return place;
            }
        }
        return people.stream().anyMatch(o -> o.winds() >= people.size()) ? text.length() : -1;
    }

    int count(int what) {
        int n = now.people().size();
        boolean[][] reach = now.reach();
        switch (what) {
            case 0: return n;
            case 1: return now.hour();
            case 2: return now.stoppedSet();
            case 3: return now.people().stream().mapToInt(One::turns).sum();
            case 4: return IntStream.range(0, n).filter(p -> reach[p][p]).map(p -> 1 << p).sum();
            case 5: return (int) IntStream.range(0, n).filter(p -> now.woundBySet(p) == 0).count();
            case 6: return now.hour() % 8 == 0 ? 1 : 0;
            case 7: return past.size();
            default: return BAD;
        }
    }

    int hours(int n) {
        if (out(n, 1, 48)) {
            return BAD;
        }
        if (now.hour() + n > 9999) {
            return FULL;
        }
        for (int h = 0; h < n; h++) {
            done(now.next());
        }
        return now.stoppedSet();
    }

    int lend(int person, int n) {
        if (no(person) || out(n, 1, 30)) {
            return BAD;
        }
        if (now.people().get(person).turns() == 30) {
            return NOT;
        }
        done(now.with(person, o -> o.more(n)));
        return now.people().get(person).turns();
    }

    int tell(int person, int other) {
        if (no(person) || person == other || other != NONE && no(other)) {
            return BAD;
        }
        int old = now.people().get(person).winds();
        if (old == other) {
            return NOT;
        }
        done(now.with(person, o -> o.told(other)));
        return old;
    }

    int cut(int person, int key) {
        if (no(person) || out(key, 1, 12)) {
            return BAD;
        }
        int old = now.people().get(person).key();
        if (old == key) {
            return NOT;
        }
        done(now.with(person, o -> o.withKey(key)));
        return old;
    }

    int drift(int n) {
        if (out(n, 1, 48)) {
            return BAD;
        }
        if (now.hour() + n > 9999) {
            return FULL;
        }
        for (int h = 0; h < n; h++) {
            done(now.drawn().next());
        }
        return now.stoppedSet();
    }

    int undo() {
        if (past.isEmpty()) {
            return NONE;
        }
        now = past.removeLast();
        return past.size();
    }

    int seed(int v) {
        if (v < 0) {
            return BAD;
        }
        int old = (int) now.draw();
        now = new Moment(now.people(), now.hour(), v);
        return old;
    }

    int ahead(int person, int n) {
        return no(person) || out(n, 0, 80) ? BAD : now.behind(n).people().get(person).turns();
    }

    int then(int n) {
        return out(n, 0, 80) ? BAD : now.behind(n).stoppedSet();
    }

    int stops(int person) {
        return no(person) ? BAD
            : IntStream.rangeClosed(0, 80).filter(h -> now.behind(h).people().get(person).stopped()).findFirst().orElse(NONE);
    }

    int all() {
        return IntStream.rangeClosed(0, 80).filter(h -> now.behind(h).people().stream().allMatch(One::stopped))
            .findFirst().orElse(NONE);
    }

    int ever() {
        return IntStream.rangeClosed(0, 80).map(h -> now.behind(h).stoppedSet()).reduce(0, (a, b) -> a | b);
    }

    int chain(int person, int what) {
        if (no(person) || out(what, 0, 1)) {
            return BAD;
        }
        boolean[][] reach = now.reach();
        return IntStream.range(0, now.people().size()).filter(p -> what == 0 ? reach[person][p]
            : (p == person || reach[p][person]) && now.woundBySet(p) == 0).map(p -> 1 << p).sum();
    }

    int lends(int n, int t, int what) {
        if (out(n, 1, 40) || out(t, 1, 30) || out(what, 0, 1)) {
            return BAD;
        }
        int[] left = IntStream.range(0, now.people().size())
            .map(p -> Integer.bitCount(now.with(p, o -> o.more(t)).behind(n).stoppedSet())).toArray();
        if (left.length == 0) {
            return NONE;
        }
        int fewest = Arrays.stream(left).min().getAsInt();
        return what == 1 ? fewest : IntStream.range(0, left.length).filter(p -> left[p] == fewest).findFirst().getAsInt();
    }

    int instead(int person, int n, int what) {
        if (no(person) || out(n, 1, 40) || out(what, 0, 1)) {
            return BAD;
        }
        List<Integer> whom = new ArrayList<>(List.of(NONE));
        IntStream.range(0, now.people().size()).filter(p -> p != person).forEach(whom::add);
        List<Integer> left = whom.stream()
            .map(w -> Integer.bitCount(now.with(person, o -> o.told(w)).behind(n).stoppedSet())).toList();
        int fewest = Collections.min(left);
        return what == 1 ? fewest : whom.get(left.indexOf(fewest));
    }

    int needs(int person, int n) {
        if (no(person) || out(n, 1, 40)) {
            return BAD;
        }
        return IntStream.rangeClosed(0, 30).filter(t -> {
            Moment start = now.with(person, o -> o.withTurns(t));
            return IntStream.rangeClosed(0, n).noneMatch(h -> start.behind(h).people().get(person).stopped());
        }).findFirst().orElse(NONE);
    }

    int match(int person) {
        int n = now.people().size();
        if (n < 2) {
            return NONE;
        }
        if (person != -1 && no(person)) {
            return BAD;
        }
        List<List<Integer>> tellings = new ArrayList<>(List.of(List.of()));
        for (int p = 0; p < n; p++) {
            int who = p;
            tellings = tellings.stream().flatMap(t -> IntStream.range(0, n).filter(o -> o != who && !t.contains(o))
                .mapToObj(o -> {
                    List<Integer> longer = new ArrayList<>(t);
                    longer.add(o);
                    return longer;
                })).collect(Collectors.toList());
        }
        List<Integer> best = tellings.stream().min(Comparator.comparingInt(this::changes)).orElseThrow();
        return person == -1 ? changes(best) : best.get(person);
    }

    private int changes(List<Integer> telling) {
        return (int) IntStream.range(0, telling.size())
            .filter(p -> now.people().get(p).winds() != telling.get(p)).count();
    }

    int again() {
        return IntStream.rangeClosed(1, 10).map(d -> d * 24)
            .filter(h -> turns(now.behind(h)).equals(turns(now))).findFirst().orElse(NONE);
    }

    private static List<Integer> turns(Moment m) {
        return m.people().stream().map(One::turns).toList();
    }

    int forget(int person, int c, int what) {
        if (no(person) || out(c, 0, 10) || out(what, 0, 1)) {
            return BAD;
        }
        BigInteger above = stoppedWays(person, BigInteger.valueOf(c), 0, 0);
        BigInteger below = BigInteger.TEN.pow(now.people().size());
        BigInteger shared = above.gcd(below);
        return (what == 0 ? above : below).divide(shared).intValueExact();
    }

    /** Of 10 to the power of how many are left, also for those who would not wind. */
    private BigInteger stoppedWays(int person, BigInteger c, int p, int forgetting) {
        if (p == now.people().size()) {
            return now.wound(forgetting).run().people().get(person).stopped() ? BigInteger.ONE : BigInteger.ZERO;
        }
        return c.multiply(stoppedWays(person, c, p + 1, forgetting | 1 << p))
            .add(BigInteger.TEN.subtract(c).multiply(stoppedWays(person, c, p + 1, forgetting)));
    }

    int image() {
        kept = now;
        keptPast = new ArrayDeque<>(past);
        return 1;
    }

    int restore() {
        if (kept == null) {
            return NONE;
        }
        now = kept;
        past = new ArrayDeque<>(keptPast);
        return 1;
    }

    private static int laneOf(Object row) {
        return row instanceof byte[] ? 0 : row instanceof short[] ? 1 : row instanceof int[] ? 2 : 3;
    }

    private int found(int sheet, int lane, int i, int n) {
        Object row = sheets[sheet];
        if (row == null) {
            return NULL;
        }
        if (laneOf(row) != lane) {
            return CAST;
        }
        return i < 0 || (long) i + n > java.lang.reflect.Array.getLength(row) ? INDEX : 0;
    }

    private void put(Object row, int i, long v) {
        if (row instanceof byte[] bytes) {
            bytes[i] = (byte) v;
        } else if (row instanceof short[] shorts) {
            shorts[i] = (short) v;
        } else if (row instanceof int[] ints) {
            ints[i] = (int) v;
        } else {
            ((long[]) row)[i] = v;
        }
    }

    int heard(int person, int sheet, int lane, int i, int n, int what) {
        if (no(person) || out(sheet, 0, 3) || out(lane, 0, 3) || out(n, 1, 8) || out(what, 0, 1 + now.people().size())) {
            return BAD;
        }
        int found = found(sheet, lane, i, n);
        if (found != 0) {
            return found;
        }
        IntStream guesses = what == 0 ? IntStream.range(0, 5) : what == 1 ? IntStream.range(0, 31) : IntStream.range(1, 13);
        return guesses.filter(g -> {
            Moment start = what == 0 ? now.with(person, o -> o.ofKind(g)) : what == 1
                ? now.with(person, o -> o.withTurns(g)) : now.with(what - 2, o -> o.withKey(g));
            return IntStream.range(0, n).allMatch(h -> start.behind(h + 1).people().get(person).turns()
                == java.lang.reflect.Array.getLong(sheets[sheet], i + h));
        }).map(g -> 1 << g).sum();
    }

    int film(int person, int n, int sheet, int lane, int i) {
        if (no(person) || out(n, 1, 24) || out(sheet, 0, 3) || out(lane, 0, 3)) {
            return BAD;
        }
        int found = found(sheet, lane, i, n);
        if (found != 0) {
            return found;
        }
        for (int h = 1; h <= n; h++) {
            put(sheets[sheet], i + h - 1, now.behind(h).people().get(person).turns());
        }
        return n;
    }

    int sheet(int sheet, int lane, int n) {
        if (out(sheet, 0, 3) || out(lane, 0, 3) || n > 24) {
            return BAD;
        }
        if (n < 0) {
            return SIZE;
        }
        sheets[sheet] = new Object[] {new byte[n], new short[n], new int[n], new long[n]}[lane];
        return n;
    }

    int drop(int sheet) {
        if (out(sheet, 0, 3)) {
            return BAD;
        }
        if (sheets[sheet] == null) {
            return NULL;
        }
        int n = java.lang.reflect.Array.getLength(sheets[sheet]);
        sheets[sheet] = null;
        return n;
    }

    int item(int sheet, int lane, int i, long v) {
        if (out(sheet, 0, 3) || out(lane, 0, 3)) {
            return BAD;
        }
        int found = found(sheet, lane, i, 1);
        if (found == 0) {
            put(sheets[sheet], i, v);
        }
        return found == 0 ? 1 : found;
    }

    /** By what the machine itself finds in a copy. */
    int copy(int from, int i, int to, int j, int n) {
        if (out(from, 0, 3) || out(to, 0, 3)) {
            return BAD;
        }
        try {
            System.arraycopy(sheets[from], i, sheets[to], j, n);
            return n;
        } catch (NullPointerException e) {
            return NULL;
        } catch (ArrayStoreException e) {
            return CAST;
        } catch (IndexOutOfBoundsException e) {
            return INDEX;
        }
    }
}
