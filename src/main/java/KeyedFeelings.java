import java.util.Arrays;

/** A close of people who wind one another; ../shared/DOC.md says what each call promises. */
public final class KeyedFeelings {
    public static final int BAD = -1, NOT = -2, FULL = -3, NONE = -4, NULL = -11, CAST = -12, INDEX = -13, SIZE = -14;

    private static final int MOST_PEOPLE = 6;
    private static final int LAST_KIND = 4;
    private static final int MOST_TURNS = 30;
    private static final int MOST_KEY = 12;
    private static final int LAST_HOUR = 9999;
    private static final int MOST_HOURS = 48;
    private static final int FORESEEN = 80;
    private static final int ADVISED = 40;
    private static final int DAY = 24;
    private static final int DAYS = 10;
    private static final int HEARD_HOURS = 8;
    private static final int HEARD_KINDS = 0;
    private static final int HEARD_TURNS = 1;
    private static final int HEARD_KEYS = 2;
    private static final int SHEETS = 4;
    private static final int LANES = 4;
    private static final int MOST_ITEMS = 24;
    private static final int FIRST_FAULT = -20;

    private final People now = new People();
    private final Past past = new Past();
    private final People keptNow = new People();
    private final Past keptPast = new Past();
    private boolean isKept = false;
    private final People trial = new People();
    private final Tape tape = new Tape();
    private final Matching matching = new Matching();
    private final Sheet[] sheets = new Sheet[SHEETS];

    public KeyedFeelings() {
        for (int each = 0; each < sheets.length; each++) {
            sheets[each] = new Sheet();
        }
    }

    // ---- 1 people

    public int person(int kind, int turns) {
        if (kind < 0 || kind > LAST_KIND || turns < 0 || turns > MOST_TURNS) {
            return BAD;
        }
        if (now.size >= MOST_PEOPLE) {
            return FULL;
        }
        past.empty();
        return now.join(kind, turns);
    }

    public int of(int person, int what) {
        if (!now.has(person)) {
            return BAD;
        }
        switch (what) {
            case 0: return now.kinds[person];
            case 1: return now.turns[person];
            case 2: return now.winds[person];
            case 3: return now.keys[person];
            case 4: return now.runsOff(person, now.stopped());
            case 5: return now.woundBy(person);
            default: return BAD;
        }
    }

    public int type(int letter) {
        if (letter < ' ' || letter > '~') {
            return BAD;
        }
        if (tape.isFull()) {
            return FULL;
        }
        return tape.append(letter);
    }

    public int close() {
        trial.empty();
        boolean isClose = tape.readClose(trial);
        int place = tape.place;
        tape.empty();
        if (!isClose) {
            return FIRST_FAULT - place;
        }
        trial.draw = now.draw;
        now.become(trial);
        past.empty();
        return now.size;
    }

    public int count(int what) {
        switch (what) {
            case 0: return now.size;
            case 1: return now.hour;
            case 2: return now.stopped();
            case 3: return now.turnsTogether();
            case 4: return now.ring();
            case 5: return now.without();
            case 6: return now.isWindingHour() ? 1 : 0;
            case 7: return past.size;
            default: return BAD;
        }
    }

    // ---- what is done

    public int hours(int n) {
        return spend(n, false);
    }

    public int lend(int person, int n) {
        if (!now.has(person) || n < 1 || n > MOST_TURNS) {
            return BAD;
        }
        if (now.turns[person] >= MOST_TURNS) {
            return NOT;
        }
        past.keep(now);
        now.addTurns(person, n);
        return now.turns[person];
    }

    public int tell(int person, int other) {
        if (!now.has(person) || other == person || other != NONE && !now.has(other)) {
            return BAD;
        }
        int before = now.winds[person];
        if (other == before) {
            return NOT;
        }
        past.keep(now);
        now.winds[person] = other;
        return before;
    }

    public int cut(int person, int key) {
        if (!now.has(person) || key < 1 || key > MOST_KEY) {
            return BAD;
        }
        int before = now.keys[person];
        if (key == before) {
            return NOT;
        }
        past.keep(now);
        now.keys[person] = key;
        return before;
    }

    public int drift(int n) {
        return spend(n, true);
    }

    public int undo() {
        if (past.size == 0) {
            return NONE;
        }
        past.takeBack(now);
        return past.size;
    }

    public int seed(int v) {
        if (v < 0) {
            return BAD;
        }
        int before = now.draw;
        now.draw = v;
        return before;
    }

    /** A draw and what is lent by it are kept as one with their hour. */
    private int spend(int n, boolean isDrift) {
        if (n < 1 || n > MOST_HOURS) {
            return BAD;
        }
        if (now.hour + n > LAST_HOUR) {
            return FULL;
        }
        for (int each = 0; each < n; each++) {
            past.keep(now);
            if (isDrift) {
                now.lendByDraw();
            }
            now.passHour();
        }
        return now.stopped();
    }

    // ---- 2 foretold

    public int ahead(int person, int n) {
        if (!now.has(person) || n < 0 || n > FORESEEN) {
            return BAD;
        }
        trial.become(now);
        trial.passHours(n);
        return trial.turns[person];
    }

    public int then(int n) {
        if (n < 0 || n > FORESEEN) {
            return BAD;
        }
        trial.become(now);
        trial.passHours(n);
        return trial.stopped();
    }

    public int stops(int person) {
        if (!now.has(person)) {
            return BAD;
        }
        trial.become(now);
        return trial.passUntilStopped(1 << person, FORESEEN);
    }

    public int all() {
        trial.become(now);
        return trial.passUntilStopped(now.everybody(), FORESEEN);
    }

    public int ever() {
        trial.become(now);
        int set = trial.stopped();
        for (int each = 0; each < FORESEEN; each++) {
            trial.passHour();
            set |= trial.stopped();
        }
        return set;
    }

    public int chain(int person, int what) {
        if (!now.has(person) || what < 0 || what > 1) {
            return BAD;
        }
        return what == 0 ? now.behind(person) : now.heads(person);
    }

    public int lends(int n, int t, int what) {
        if (!isAdvised(n) || t < 1 || t > MOST_TURNS || what < 0 || what > 1) {
            return BAD;
        }
        int best = NONE;
        int fewest = MOST_PEOPLE + 1;
        for (int each = 0; each < now.size; each++) {
            trial.become(now);
            trial.addTurns(each, t);
            trial.passHours(n);
            int stopped = Integer.bitCount(trial.stopped());
            if (stopped < fewest) {
                fewest = stopped;
                best = each;
            }
        }
        return what == 0 || best == NONE ? best : fewest;
    }

    public int instead(int person, int n, int what) {
        if (!now.has(person) || !isAdvised(n) || what < 0 || what > 1) {
            return BAD;
        }
        int best = NONE;
        int fewest = stoppedIfTold(person, NONE, n);
        for (int each = 0; each < now.size; each++) {
            int stopped = each == person ? fewest : stoppedIfTold(person, each, n);
            if (stopped < fewest) {
                fewest = stopped;
                best = each;
            }
        }
        return what == 0 ? best : fewest;
    }

    public int needs(int person, int n) {
        if (!now.has(person) || !isAdvised(n)) {
            return BAD;
        }
        for (int turns = 0; turns <= MOST_TURNS; turns++) {
            trial.become(now);
            trial.turns[person] = turns;
            if (trial.passUntilStopped(1 << person, n) == NONE) {
                return turns;
            }
        }
        return NONE;
    }

    public int match(int person) {
        if (now.size < 2) {
            return NONE;
        }
        if (person != -1 && !now.has(person)) {
            return BAD;
        }
        matching.find(now);
        return person == -1 ? matching.fewest : matching.best[person];
    }

    public int again() {
        trial.become(now);
        for (int day = 1; day <= DAYS; day++) {
            trial.passHours(DAY);
            if (trial.hasTurnsOf(now)) {
                return day * DAY;
            }
        }
        return NONE;
    }

    public int forget(int person, int c, int what) {
        if (!now.has(person) || c < 0 || c > 10 || what < 0 || what > 1) {
            return BAD;
        }
        int winders = now.isWindingHour() ? now.winders() : 0;
        int above = 0;
        for (int forgetting = 0; forgetting <= winders; forgetting++) {
            if ((forgetting & winders) == forgetting) {
                trial.become(now);
                trial.wind(winders & ~forgetting);
                trial.run();
                above += trial.isStopped(person) ? waysToForget(winders, forgetting, c) : 0;
            }
        }
        int below = power(10, Integer.bitCount(winders));
        int shared = greatestDivisor(above, below);
        return (what == 0 ? above : below) / Math.max(shared, 1);
    }

    public int image() {
        keptNow.become(now);
        keptPast.become(past);
        isKept = true;
        return 1;
    }

    public int restore() {
        if (!isKept) {
            return NONE;
        }
        now.become(keptNow);
        past.become(keptPast);
        return 1;
    }

    private static boolean isAdvised(int n) {
        return n >= 1 && n <= ADVISED;
    }

    private int stoppedIfTold(int person, int other, int n) {
        trial.become(now);
        trial.winds[person] = other;
        trial.passHours(n);
        return Integer.bitCount(trial.stopped());
    }

    /** Of ten to the power of how many wind, the ways in which just these forget. */
    private static int waysToForget(int winders, int forgetting, int c) {
        int forgetters = Integer.bitCount(forgetting);
        return power(c, forgetters) * power(10 - c, Integer.bitCount(winders) - forgetters);
    }

    private static int power(int base, int exponent) {
        int product = 1;
        for (int each = 0; each < exponent; each++) {
            product *= base;
        }
        return product;
    }

    /** What is divided here is a million at most, far from as many steps as the bound. */
    private static int greatestDivisor(int a, int b) {
        int larger = a;
        int smaller = b;
        for (int step = 0; step < 100 && smaller > 0; step++) {
            int rest = larger % smaller;
            larger = smaller;
            smaller = rest;
        }
        return larger;
    }

    // ---- 3 sheets

    public int heard(int person, int sheet, int lane, int i, int n, int what) {
        if (!now.has(person) || !isSheet(sheet) || !isLane(lane) || n < 1 || n > HEARD_HOURS) {
            return BAD;
        }
        if (what < 0 || what >= HEARD_KEYS + now.size) {
            return BAD;
        }
        int refusal = sheets[sheet].refusal(lane, i, n);
        return refusal != 0 ? refusal : guessesHeard(person, what, sheets[sheet], i, n);
    }

    public int film(int person, int n, int sheet, int lane, int i) {
        if (!now.has(person) || n < 1 || n > MOST_ITEMS || !isSheet(sheet) || !isLane(lane)) {
            return BAD;
        }
        int refusal = sheets[sheet].refusal(lane, i, n);
        if (refusal != 0) {
            return refusal;
        }
        trial.become(now);
        for (int each = 0; each < n; each++) {
            trial.passHour();
            sheets[sheet].put(i + each, trial.turns[person]);
        }
        return n;
    }

    public int sheet(int sheet, int lane, int n) {
        if (!isSheet(sheet) || !isLane(lane) || n > MOST_ITEMS) {
            return BAD;
        }
        if (n < 0) {
            return SIZE;
        }
        sheets[sheet].begin(lane, n);
        return n;
    }

    public int drop(int sheet) {
        if (!isSheet(sheet)) {
            return BAD;
        }
        if (sheets[sheet].isMissing()) {
            return NULL;
        }
        int before = sheets[sheet].size;
        sheets[sheet].lose();
        return before;
    }

    public int item(int sheet, int lane, int i, long v) {
        if (!isSheet(sheet) || !isLane(lane)) {
            return BAD;
        }
        int refusal = sheets[sheet].refusal(lane, i, 1);
        if (refusal != 0) {
            return refusal;
        }
        sheets[sheet].put(i, v);
        return 1;
    }

    public int copy(int from, int i, int to, int j, int n) {
        if (!isSheet(from) || !isSheet(to)) {
            return BAD;
        }
        Sheet source = sheets[from];
        Sheet target = sheets[to];
        if (source.isMissing() || target.isMissing()) {
            return NULL;
        }
        if (source.lane != target.lane) {
            return CAST;
        }
        if (!source.holds(i, n) || !target.holds(j, n)) {
            return INDEX;
        }
        System.arraycopy(source.items, i, target.items, j, n);
        return n;
    }

    private static boolean isSheet(int sheet) {
        return sheet >= 0 && sheet < SHEETS;
    }

    private static boolean isLane(int lane) {
        return lane >= 0 && lane < LANES;
    }

    private int guessesHeard(int person, int what, Sheet sheet, int i, int n) {
        int least = what >= HEARD_KEYS ? 1 : 0;
        int most = what == HEARD_KINDS ? LAST_KIND : what == HEARD_TURNS ? MOST_TURNS : MOST_KEY;
        int set = 0;
        for (int guess = least; guess <= most; guess++) {
            trial.become(now);
            suppose(person, what, guess);
            if (trialRunsAs(person, sheet, i, n)) {
                set |= 1 << guess;
            }
        }
        return set;
    }

    private void suppose(int person, int what, int guess) {
        if (what == HEARD_KINDS) {
            trial.kinds[person] = guess;
        } else if (what == HEARD_TURNS) {
            trial.turns[person] = guess;
        } else if (trial.has(what - HEARD_KEYS)) {
            trial.keys[what - HEARD_KEYS] = guess;
        }
    }

    private boolean trialRunsAs(int person, Sheet sheet, int i, int n) {
        for (int each = 0; each < n; each++) {
            trial.passHour();
            if (sheet.items[i + each] != trial.turns[person]) {
                return false;
            }
        }
        return true;
    }

    /** All people at one moment: what an hour changes, and what may be foretold on a copy. */
    private static final class People {
        private static final int CONCERN = 1;
        private static final int TENDER = 2;
        private static final int PITY = 3;
        private static final int LONE = 4;
        private static final int BITS_31 = 0x7fffffff;

        private int size = 0;
        private final int[] kinds = new int[MOST_PEOPLE];
        private final int[] turns = new int[MOST_PEOPLE];
        private final int[] winds = new int[MOST_PEOPLE];
        private final int[] keys = new int[MOST_PEOPLE];
        private int hour = 0;
        private int draw = 1;

        private void empty() {
            size = 0;
            hour = 0;
        }

        private void become(People other) {
            size = other.size;
            hour = other.hour;
            draw = other.draw;
            for (int each = 0; each < MOST_PEOPLE; each++) {
                kinds[each] = other.kinds[each];
                turns[each] = other.turns[each];
                winds[each] = other.winds[each];
                keys[each] = other.keys[each];
            }
        }

        /** The caller has seen that there is room. */
        private int join(int kind, int hisTurns) {
            if (size >= MOST_PEOPLE) {
                return FULL;
            }
            kinds[size] = kind;
            turns[size] = hisTurns;
            winds[size] = NONE;
            keys[size] = 1;
            size++;
            return size - 1;
        }

        private boolean has(int person) {
            return person >= 0 && person < size;
        }

        private boolean isStopped(int person) {
            return turns[person] == 0;
        }

        private int everybody() {
            return (1 << size) - 1;
        }

        private int stopped() {
            int set = 0;
            for (int each = 0; each < size; each++) {
                set |= isStopped(each) ? 1 << each : 0;
            }
            return set;
        }

        private int turnsTogether() {
            int sum = 0;
            for (int each = 0; each < size; each++) {
                sum += turns[each];
            }
            return sum;
        }

        private boolean hasTurnsOf(People other) {
            for (int each = 0; each < size; each++) {
                if (turns[each] != other.turns[each]) {
                    return false;
                }
            }
            return true;
        }

        private int woundBy(int person) {
            int set = 0;
            for (int each = 0; each < size; each++) {
                set |= winds[each] == person ? 1 << each : 0;
            }
            return set;
        }

        private int without() {
            int sum = 0;
            for (int each = 0; each < size; each++) {
                sum += woundBy(each) == 0 ? 1 : 0;
            }
            return sum;
        }

        /** Each winds one at most, so a walk of as many steps as there are people sees all. */
        private int behind(int person) {
            int set = 0;
            int at = person;
            for (int step = 0; step < size && has(winds[at]); step++) {
                at = winds[at];
                set |= 1 << at;
            }
            return set;
        }

        private int ring() {
            int set = 0;
            for (int each = 0; each < size; each++) {
                set |= behind(each) & 1 << each;
            }
            return set;
        }

        private int heads(int person) {
            int set = 0;
            for (int each = 0; each < size; each++) {
                boolean leadsHere = each == person || (behind(each) & 1 << person) != 0;
                set |= leadsHere && woundBy(each) == 0 ? 1 << each : 0;
            }
            return set;
        }

        private boolean isWindingHour() {
            return hour % 8 == 0;
        }

        private int winders() {
            int set = 0;
            for (int each = 0; each < size; each++) {
                set |= !isStopped(each) && has(winds[each]) ? 1 << each : 0;
            }
            return set;
        }

        private void addTurns(int person, int more) {
            turns[person] = Math.min(MOST_TURNS, turns[person] + more);
        }

        /** The winders are told ahead, so that one wound just now does not wind yet. */
        private void wind(int winders) {
            for (int each = 0; each < size; each++) {
                if ((winders & 1 << each) != 0 && has(winds[each])) {
                    addTurns(winds[each], keys[each]);
                }
            }
        }

        /** Who is stopped is seen ahead, so that all run at once. */
        private void run() {
            int stopped = stopped();
            for (int each = 0; each < size; each++) {
                turns[each] = Math.max(0, turns[each] - runsOff(each, stopped));
            }
            hour++;
        }

        private void passHour() {
            if (isWindingHour()) {
                wind(winders());
            }
            run();
        }

        private void passHours(int n) {
            for (int each = 0; each < n; each++) {
                passHour();
            }
        }

        /** The first of 0 to most hours behind which all of a set are stopped. */
        private int passUntilStopped(int set, int most) {
            for (int passed = 0; passed < most; passed++) {
                if ((stopped() & set) == set) {
                    return passed;
                }
                passHour();
            }
            return (stopped() & set) == set ? most : NONE;
        }

        private int runsOff(int person, int stopped) {
            if ((stopped & 1 << person) != 0) {
                return 0;
            }
            switch (kinds[person]) {
                case CONCERN: return runsConcern();
                case TENDER: return runsTender();
                case PITY: return runsConcern() + (windsOneOf(person, stopped) ? 2 : 0);
                case LONE: return runsTender() * (woundBy(person) == 0 ? 2 : 1);
                default: return 1;
            }
        }

        private int runsConcern() {
            return hour % 2 == 0 ? 2 : 1;
        }

        private int runsTender() {
            return hour % 3 == 0 ? 0 : 1;
        }

        private boolean windsOneOf(int person, int set) {
            return winds[person] != NONE && (set & 1 << winds[person]) != 0;
        }

        private void lendByDraw() {
            draw = draw * 1103515245 + 12345 & BITS_31;
            if (size > 0 && draw / 65536 % 4 == 0) {
                addTurns(draw / 128 % size, 3);
            }
        }
    }

    /** The latest eight moments that may come back; an older one gives its place to a newer. */
    private static final class Past {
        private static final int KNOWN = 8;

        private int size = 0;
        private int next = 0;
        private final People[] moments = new People[KNOWN];

        private Past() {
            for (int each = 0; each < KNOWN; each++) {
                moments[each] = new People();
            }
        }

        private void empty() {
            size = 0;
        }

        private void become(Past other) {
            size = other.size;
            next = other.next;
            for (int each = 0; each < KNOWN; each++) {
                moments[each].become(other.moments[each]);
            }
        }

        private void keep(People moment) {
            moments[next].become(moment);
            next = (next + 1) % KNOWN;
            size = Math.min(KNOWN, size + 1);
        }

        /** The caller has seen that one is known. */
        private void takeBack(People moment) {
            next = (next + KNOWN - 1) % KNOWN;
            moment.become(moments[next]);
            size = Math.max(0, size - 1);
        }
    }

    /** THE TAPE and where it is read; a reading that fails stays at the place of the fault. */
    private static final class Tape {
        private static final int MOST_LETTERS = 60;
        private static final int END = -1;
        private static final int NO_NUMBER = -1;
        private static final String KINDS = "gctpl";

        private final int[] letters = new int[MOST_LETTERS];
        private int size = 0;
        private int place = 0;

        private boolean isFull() {
            return size >= MOST_LETTERS;
        }

        /** The caller has seen that there is room. */
        private int append(int letter) {
            if (size < MOST_LETTERS) {
                letters[size] = letter;
                size++;
            }
            return size;
        }

        private void empty() {
            size = 0;
        }

        private boolean readClose(People people) {
            place = 0;
            for (int each = 0; each < MOST_PEOPLE; each++) {
                if (each > 0 && !take(',')) {
                    break;
                }
                if (!readPerson(people)) {
                    return false;
                }
            }
            return letterHere() == END && allWoundAreThere(people);
        }

        private boolean readPerson(People people) {
            int kind = kindOf(letterHere());
            if (kind < 0) {
                return false;
            }
            place++;
            int turns = takeNumber(0, MOST_TURNS);
            if (turns == NO_NUMBER) {
                return false;
            }
            int person = people.join(kind, turns);
            return !take('>') || readWinding(people, person);
        }

        private boolean readWinding(People people, int person) {
            int other = letterHere() - '0';
            if (other < 0 || other >= MOST_PEOPLE || other == person || person < 0) {
                return false;
            }
            place++;
            if (!take(':')) {
                return false;
            }
            int key = takeNumber(1, MOST_KEY);
            if (key == NO_NUMBER) {
                return false;
            }
            people.winds[person] = other;
            people.keys[person] = key;
            return true;
        }

        private static boolean allWoundAreThere(People people) {
            for (int each = 0; each < people.size; each++) {
                if (people.winds[each] != NONE && !people.has(people.winds[each])) {
                    return false;
                }
            }
            return true;
        }

        private static int kindOf(int letter) {
            for (int kind = 0; kind < KINDS.length(); kind++) {
                if (KINDS.charAt(kind) == letter) {
                    return kind;
                }
            }
            return -1;
        }

        /** The letter behind blanks, where the place is then. */
        private int letterHere() {
            while (place < size && letters[place] == ' ') {
                place++;
            }
            return place < size ? letters[place] : END;
        }

        private boolean take(int letter) {
            boolean isHere = letterHere() == letter;
            place += isHere ? 1 : 0;
            return isHere;
        }

        /** A third digit is left, as one that can't stand there. */
        private int takeNumber(int least, int most) {
            letterHere();
            int first = place;
            int number = takeDigit();
            int second = number == NO_NUMBER ? NO_NUMBER : takeDigit();
            if (second != NO_NUMBER) {
                number = number * 10 + second;
            }
            if (number < least || number > most) {
                place = first;
                return NO_NUMBER;
            }
            return number;
        }

        /** Without blanks, since they end a number. */
        private int takeDigit() {
            if (place >= size || letters[place] < '0' || letters[place] > '9') {
                return NO_NUMBER;
            }
            place++;
            return letters[place - 1] - '0';
        }
    }

    /** The first telling, of those with the fewest changes, by which each is wound by just one. */
    private static final class Matching {
        private int fewest = 0;
        private final int[] best = new int[MOST_PEOPLE];
        private final int[] telling = new int[MOST_PEOPLE];

        private void find(People people) {
            fewest = MOST_PEOPLE + 1;
            choose(this, people, 0, 0, 0);
        }

        /** Whom a person winds, rising, so that of like tellings the first is found first. */
        private static void choose(Matching matching, People people, int person, int taken, int changes) {
            if (changes >= matching.fewest) {
                return;
            }
            if (person >= people.size) {
                matching.fewest = changes;
                System.arraycopy(matching.telling, 0, matching.best, 0, MOST_PEOPLE);
                return;
            }
            for (int other = 0; other < people.size; other++) {
                if (other != person && (taken & 1 << other) == 0) {
                    matching.telling[person] = other;
                    int more = people.winds[person] == other ? 0 : 1;
                    choose(matching, people, person + 1, taken | 1 << other, changes + more);
                }
            }
        }
    }

    /** A row of a lane, or nothing; its items are kept wide, cut to what the lane holds. */
    private static final class Sheet {
        private static final int MISSING = -1;

        private int lane = 0;
        private int size = MISSING;
        private final long[] items = new long[MOST_ITEMS];

        private boolean isMissing() {
            return size == MISSING;
        }

        private void begin(int newLane, int newSize) {
            lane = newLane;
            size = newSize;
            Arrays.fill(items, 0L);
        }

        private void lose() {
            size = MISSING;
        }

        private boolean holds(int i, int n) {
            return i >= 0 && n >= 0 && i <= size - n;
        }

        /** What the machine finds when n items from i on are taken as a row of a lane; 0: nothing. */
        private int refusal(int takenAs, int i, int n) {
            if (isMissing()) {
                return NULL;
            }
            if (lane != takenAs) {
                return CAST;
            }
            return holds(i, n) ? 0 : INDEX;
        }

        /** The caller has seen that the sheet holds this item. */
        private void put(int i, long v) {
            switch (lane) {
                case 0: items[i] = (byte) v; break;
                case 1: items[i] = (short) v; break;
                case 2: items[i] = (int) v; break;
                default: items[i] = v; break;
            }
        }
    }
}
