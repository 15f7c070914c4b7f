/**
 * A valley in which sleep is the fuel: whoever is awake at a work must be slept for by others.
 * The document (shared/DOC.md) says what every call answers; capital words here are its words.
 */
public final class SleptFor {
    public static final int NONE = -1;

    private static final int OTHER = -2;
    private static final int MOST_PEOPLE = 8;
    private static final int MOST_WORKS = 6;
    private static final int MOST_MARK = 9;
    private static final int MOST_NEEDS = 99;
    private static final int MOST_NAPS = 99;
    private static final int LAST_HOUR = 999;
    private static final int MOST_HOURS = 60;
    private static final int MOST_STEPS = 30;
    private static final int MOST_TURNS = 30;
    private static final int MOST_SEED = 9999;
    private static final int FIRST_X = 43;
    private static final int FOR_NONE = 8;

    private static final int IDLE = 0;
    private static final int AWAKE = 1;
    private static final int ASLEEP = 2;

    private static final int MOST_TEXTS = 4;
    private static final int MOST_BYTES = 300;
    private static final int BYTES_FED = 20;
    private static final int MOST_CLAUSES = 24;
    private static final int MOST_OPEN = 8;
    private static final int MOST_NUMBER = 9999;
    private static final int MOST_VALUE = 1000000;

    /** The words of the language, five signs each, in the order of the TOKEN kinds below. */
    private static final String WORDS =
            "worthburn soundpricewake sleepidle call repayhour at   for  to   by   if   then else end  or   and  not  who  now  on   depthdreamwhom task noiseowed ";
    private static final int WORD_SIGNS = 5;
    private static final int WORTH = 0;
    private static final int BURN = 1;
    private static final int SOUND = 2;
    private static final int PRICE = 3;
    private static final int LAWS = 4;
    private static final int DO_WAKE = 4;
    private static final int DO_SLEEP = 5;
    private static final int DO_IDLE = 6;
    private static final int DO_CALL = 7;
    private static final int DO_REPAY = 8;
    private static final int DO_HOUR = 9;
    private static final int AT = 10;
    private static final int FOR = 11;
    private static final int TO = 12;
    private static final int BY = 13;
    private static final int IF = 14;
    private static final int THEN = 15;
    private static final int ELSE = 16;
    private static final int END = 17;
    private static final int OR = 18;
    private static final int AND = 19;
    private static final int NOT = 20;
    private static final int FIRST_NAME = 21;
    private static final int NAMES = 9;
    private static final int WORD_COUNT = 30;
    private static final int NUMBER = 30;
    private static final int LESS = 31;
    private static final int LESS_OR_LIKE = 32;
    private static final int MORE = 33;
    private static final int MORE_OR_LIKE = 34;
    private static final int LIKE = 35;
    private static final int UNLIKE = 36;
    private static final int PLUS = 37;
    private static final int MINUS = 38;
    private static final int TIMES = 39;
    private static final int OVER = 40;
    private static final int OPENED = 41;
    private static final int CLOSED = 42;
    private static final int STOP = 43;
    private static final int TAPE_END = 44;
    private static final int NO_TOKEN = 45;
    /** Just in compiled laws: the minus of one ONE. */
    private static final int NEGATE = 46;

    private static final int WHO = 0;
    private static final int NOW = 1;
    private static final int ON = 2;
    private static final int DEPTH = 3;
    private static final int DREAM = 4;
    private static final int WHOM = 5;
    private static final int TASK = 6;
    private static final int NOISE = 7;
    private static final int OWED = 8;
    /** Which NAMES (bits by the numbers above) each law may use. */
    private static final int[] NAMES_OF = {63, 199, 15, 267};

    private final Valley valley = new Valley();
    private final Valley imaged = new Valley();
    private final Text[] texts = new Text[MOST_TEXTS];
    private final int[] tape = new int[MOST_BYTES];
    private int taped;
    private final Reader reader = new Reader(tape);
    private final Laws laws = new Laws(valley, texts);
    private final Clock clock = new Clock(valley.folk, laws);
    private final Night foretold = new Night();
    private final Pairing pairing = new Pairing(valley, laws);
    private final Rota relief = new Rota();
    private final Questions questions = new Questions(valley, laws, clock);

    public SleptFor() {
        for (int i = 0; i < texts.length; i++) {
            texts[i] = new Text();
        }
    }

    public int person(int depth, int voice) {
        Folk folk = valley.folk;
        boolean told = depth >= 0 && depth <= MOST_MARK && voice >= 0 && voice <= MOST_MARK;
        if (!told || folk.people >= MOST_PEOPLE) {
            return NONE;
        }
        folk.depth[folk.people] = depth;
        folk.voice[folk.people] = voice;
        folk.people++;
        return folk.people - 1;
    }

    public int work(int needs, int noise) {
        Folk folk = valley.folk;
        boolean told = needs >= 1 && needs <= MOST_NEEDS && noise >= 0 && noise <= MOST_MARK;
        if (!told || folk.works >= MOST_WORKS) {
            return NONE;
        }
        folk.needs[folk.works] = needs;
        folk.noise[folk.works] = noise;
        folk.works++;
        return folk.works - 1;
    }

    public boolean may(int sleeper, int whom) {
        Folk folk = valley.folk;
        if (!folk.areUnlike(sleeper, whom) || (folk.may[sleeper] >> whom & 1) == 1) {
            return false;
        }
        folk.may[sleeper] |= 1 << whom;
        return true;
    }

    public boolean hears(int one, int other) {
        Folk folk = valley.folk;
        if (!folk.areUnlike(one, other) || (folk.hears[one] >> other & 1) == 1) {
            return false;
        }
        folk.hears[one] |= 1 << other;
        folk.hears[other] |= 1 << one;
        return true;
    }

    public boolean wake(int person, int work) {
        if (!isDoing(person, IDLE) || !valley.folk.isWork(work)) {
            return false;
        }
        valley.steps.push(valley.night);
        valley.night.begin(person, AWAKE, work);
        return true;
    }

    public boolean sleep(int person, int whom) {
        Folk folk = valley.folk;
        if (!isDoing(person, IDLE) || !folk.areUnlike(person, whom) || (folk.may[person] >> whom & 1) == 0) {
            return false;
        }
        valley.steps.push(valley.night);
        valley.night.begin(person, ASLEEP, whom);
        return true;
    }

    public boolean idle(int person) {
        if (!valley.folk.isPerson(person) || isDoing(person, IDLE)) {
            return false;
        }
        valley.steps.push(valley.night);
        valley.night.makeIdle(1 << person);
        return true;
    }

    public int call(int person) {
        if (!isDoing(person, ASLEEP)) {
            return NONE;
        }
        valley.steps.push(valley.night);
        int woken = clock.wokenBy(valley.night, person);
        valley.night.makeIdle(woken);
        return Integer.bitCount(woken);
    }

    public int repay(int person, int whom, int k) {
        if (!valley.folk.areUnlike(person, whom)) {
            return NONE;
        }
        Night night = valley.night;
        int pair = person * MOST_PEOPLE + whom;
        if (k < 1 || k > night.owes[pair]) {
            return NONE;
        }
        valley.steps.push(night);
        night.owes[pair] -= k;
        return night.owes[pair];
    }

    public int hour(int n) {
        if (n < 1 || n > MOST_HOURS || valley.night.hour + n > LAST_HOUR) {
            return NONE;
        }
        return passHours(n, true);
    }

    public int year(int seed, int n) {
        boolean told = seed >= 0 && seed <= MOST_SEED && n >= 1 && n <= MOST_TURNS;
        if (!told || valley.folk.people == 0) {
            return NONE;
        }
        valley.steps.push(valley.night);
        valley.night.x = seed * 2 + FIRST_X;
        int ran = 0;
        for (int i = 0; i < n; i++) {
            ran += takeTurn();
        }
        return ran;
    }

    public int feed(int a, int b, int c, int d, int e) {
        if (taped > MOST_BYTES - BYTES_FED) {
            return NONE;
        }
        putBytes(a);
        putBytes(b);
        putBytes(c);
        putBytes(d);
        putBytes(e);
        return taped;
    }

    public int end(int n) {
        if (n < 0 || n > taped) {
            return NONE;
        }
        taped = n;
        return n;
    }

    public int text() {
        int number = valley.texts;
        if (number < 0 || number >= texts.length) {
            return NONE;
        }
        boolean good = reader.read(taped);
        taped = 0;
        if (!good) {
            return NONE;
        }
        texts[number].copy(reader.draft);
        valley.texts = number + 1;
        return number;
    }

    public int fault(int what) {
        if (what == 0) {
            return reader.fault;
        }
        return what == 1 ? reader.place : NONE;
    }

    public boolean by(int text) {
        if (text < NONE || text >= valley.texts) {
            return false;
        }
        valley.ruling = text;
        return true;
    }

    public int played(int text) {
        if (text < 0 || text >= valley.texts || text >= texts.length) {
            return OTHER;
        }
        Text script = texts[text];
        for (int i = 0; i < script.clauses && i < MOST_CLAUSES; i++) {
            if (script.kind[i] >= LAWS && !perform(script, i)) {
                return i;
            }
        }
        return NONE;
    }

    public int undo() {
        return valley.steps.pop(valley.night) ? valley.steps.count : NONE;
    }

    public int of(int person, int what) {
        Folk folk = valley.folk;
        if (!folk.isPerson(person)) {
            return OTHER;
        }
        Night night = valley.night;
        switch (what) {
            case 0: return folk.depth[person];
            case 1: return folk.voice[person];
            case 2: return night.doing[person];
            case 3: return night.with[person];
            case 4: return night.on[person];
            case 5: return night.dream[person];
            case 6: return folk.may[person];
            case 7: return folk.hears[person];
            case 8: return laws.soundOf(person, night.on[person], night.hour);
            case 9: return isDoing(person, AWAKE) ? laws.burnNow(night, person) : NONE;
            case 10: return isDoing(person, ASLEEP) ? laws.worthNow(night, person, night.dream[person]) : NONE;
            case 11: return isDoing(person, AWAKE) ? laws.fuelNow(night, person) : NONE;
            default: return OTHER;
        }
    }

    public int ofWork(int work, int what) {
        Folk folk = valley.folk;
        if (!folk.isWork(work)) {
            return NONE;
        }
        switch (what) {
            case 0: return folk.needs[work];
            case 1: return folk.noise[work];
            case 2: return valley.night.done[work];
            default: return NONE;
        }
    }

    public int owes(int person, int whom) {
        if (!valley.folk.isPerson(person) || !valley.folk.isPerson(whom)) {
            return NONE;
        }
        return valley.night.owes[person * MOST_PEOPLE + whom];
    }

    public int kept(int hour, int what) {
        boolean there = hour >= valley.firstKept() && hour < valley.night.hour && hour < valley.log.length;
        if (!there || what < 0 || what > 2) {
            return NONE;
        }
        return valley.log[hour] >> 8 * what & 255;
    }

    public int foretoldDone(int n, int work) {
        if (n < 1 || n > MOST_HOURS || !valley.folk.isWork(work)) {
            return NONE;
        }
        foretold.copy(valley.night);
        for (int i = 0; i < n; i++) {
            clock.pass(foretold);
        }
        return foretold.done[work];
    }

    public int foretoldStop(int n, int person) {
        if (n < 1 || n > MOST_HOURS || !isDoing(person, AWAKE)) {
            return NONE;
        }
        foretold.copy(valley.night);
        for (int i = 1; i <= n; i++) {
            clock.pass(foretold);
            if ((clock.stopped >> person & 1) == 1) {
                return i;
            }
        }
        return NONE;
    }

    public int match(int wakers, int work, int sleepers, boolean dear, int sleeper) {
        if (!canPair(wakers, work, sleepers)) {
            return NONE;
        }
        boolean asked = sleeper >= 0 && sleeper < MOST_PEOPLE && (sleepers >> sleeper & 1) == 1;
        if (sleeper != NONE && !asked) {
            return NONE;
        }
        pairing.prepare(wakers, work, sleepers, dear);
        if (!pairing.solve()) {
            return NONE;
        }
        return asked ? pairing.whomFor(sleeper) : pairing.bestCost;
    }

    public int whoCannot(int wakers, int work, int sleepers) {
        if (!canPair(wakers, work, sleepers)) {
            return NONE;
        }
        pairing.prepare(wakers, work, sleepers, false);
        return pairing.lowestShort();
    }

    public int behind(int person, int other) {
        Folk folk = valley.folk;
        if (!folk.isPerson(person) || other != NONE && !folk.isPerson(other)) {
            return NONE;
        }
        return questions.tierBehind(person, other);
    }

    public int valley(int a, int v) {
        if (a < 1 || a > 23 || v < 1 || v > 99) {
            return NONE;
        }
        for (int n = 2; n <= 99; n++) {
            int awakeAtOnce = n * v / (10 + v);
            if (awakeAtOnce * 24 >= n * a) {
                return n;
            }
        }
        return NONE;
    }

    public int rota(int n, int people, int e, int r, int hour) {
        boolean told = n >= 1 && n <= 8 && e >= 1 && e <= 8 && r >= 0 && r <= 8;
        if (!told || !valley.folk.isGroup(people, 1, 4) || hour < NONE || hour >= n) {
            return NONE;
        }
        relief.prepare(n, people, e, r);
        if (!relief.solve()) {
            return NONE;
        }
        return hour == NONE ? relief.bestChanges : relief.whoIn(hour);
    }

    public int chain(int person) {
        return isDoing(person, ASLEEP) ? clock.wokenBy(valley.night, person) : NONE;
    }

    public int guard(int person, int people) {
        if (!isDoing(person, ASLEEP) || !valley.folk.isGroup(people, 1, MOST_PEOPLE)
                || (people >> person & 1) == 1) {
            return NONE;
        }
        return questions.leastGuard(person, people);
    }

    public long enough(int k, int p, int n, int m, boolean low) {
        boolean told = k >= 1 && k <= 5 && p >= 0 && p <= 10 && m >= 0 && m <= 5;
        if (!told || n < 0 || n > 15 || k * n > 15) {
            return NONE;
        }
        long stays = power(10 - p, n);
        long all = power(10, n);
        long upper = atLeast(k, m, stays, all - stays);
        long lower = power(all, k);
        long common = commonDivisor(lower, upper);
        if (common < 1) {
            return NONE;
        }
        return low ? lower / common : upper / common;
    }

    public int ring(int i) {
        return i < -2 || i >= MOST_PEOPLE ? NONE : questions.ofRing(i);
    }

    public int without(int people) {
        return people < 0 || people > 255 ? NONE : questions.stoppedWithout(people);
    }

    public int strike(int person) {
        return isDoing(person, AWAKE) ? questions.leastStrike(person) : NONE;
    }

    public int fits(int person) {
        return valley.folk.isPerson(person) ? questions.fitting(person) : NONE;
    }

    public int forNobody() {
        return questions.asleepForNobody();
    }

    public int image() {
        imaged.copy(valley);
        return valley.night.hour;
    }

    public int back() {
        valley.copy(imaged);
        return valley.night.hour;
    }

    public int about(int what) {
        switch (what) {
            case 0: return valley.folk.people;
            case 1: return valley.folk.works;
            case 2: return valley.night.hour;
            case 3: return valley.night.x;
            case 4: return valley.texts;
            case 5: return valley.ruling;
            case 6: return valley.steps.count;
            case 7: return valley.night.those(AWAKE);
            case 8: return valley.night.those(ASLEEP);
            case 9: return taped;
            default: return OTHER;
        }
    }

    private boolean isDoing(int person, int what) {
        return valley.folk.isPerson(person) && valley.night.doing[person] == what;
    }

    private boolean canPair(int wakers, int work, int sleepers) {
        Folk folk = valley.folk;
        return folk.isGroup(wakers, 1, 4) && folk.isGroup(sleepers, 1, 6)
                && (wakers & sleepers) == 0 && folk.isWork(work);
    }

    /** How many RAN in up to n HOURS; fewer pass where 999 is reached. */
    private int passHours(int n, boolean asSteps) {
        Night night = valley.night;
        int ran = 0;
        for (int i = 0; i < n && night.hour >= 0 && night.hour < LAST_HOUR; i++) {
            if (asSteps) {
                valley.steps.push(night);
            }
            int hour = night.hour;
            clock.pass(night);
            valley.log[hour] = clock.ran | clock.stopped << 8 | clock.slept << 16;
            ran += Integer.bitCount(clock.ran);
        }
        return ran;
    }

    /** One of the n times of A YEAR: how many RAN in it. */
    private int takeTurn() {
        Night night = valley.night;
        int turn = night.draw(8);
        if (turn > 4) {
            return passHours(1, false);
        }
        if (turn == 3 && valley.folk.works == 0) {
            return 0;
        }
        int person = night.draw(valley.folk.people);
        int work = turn == 3 ? night.draw(valley.folk.works) : NONE;
        if (turn < 3 && isDoing(person, IDLE)) {
            int whom = lowestOf(valley.folk.may[person] & night.those(AWAKE));
            if (whom != NONE) {
                night.begin(person, ASLEEP, whom);
            }
        } else if (turn == 3 && isDoing(person, IDLE)) {
            night.begin(person, AWAKE, work);
        } else if (turn == 4 && isDoing(person, ASLEEP)) {
            night.makeIdle(clock.wokenBy(night, person));
        }
        return 0;
    }

    private boolean perform(Text script, int i) {
        int first = script.first[i];
        int second = script.second[i];
        switch (script.kind[i]) {
            case DO_WAKE: return wake(first, second);
            case DO_SLEEP: return sleep(first, second);
            case DO_IDLE: return idle(first);
            case DO_CALL: return call(first) != NONE;
            case DO_REPAY: return repay(first, second, script.third[i]) != NONE;
            default: break;
        }
        int due = valley.night.hour + first;
        passHours(first, true);
        return valley.night.hour == due;
    }

    private void putBytes(int four) {
        for (int shift = 24; shift >= 0 && taped < tape.length; shift -= 8) {
            tape[taped] = four >> shift & 255;
            taped++;
        }
    }

    private static int lowestOf(int bits) {
        for (int p = 0; p < MOST_PEOPLE; p++) {
            if ((bits >> p & 1) == 1) {
                return p;
            }
        }
        return NONE;
    }

    private static long power(long base, int times) {
        long product = 1;
        for (int i = 0; i < times; i++) {
            product *= base;
        }
        return product;
    }

    /** Of all ways in which k sleep on (stays ways each) or don't (leaves ways each): those with m at least. */
    private static long atLeast(int k, int m, long stays, long leaves) {
        long sum = 0;
        long choices = 1;
        for (int j = 0; j <= k; j++) {
            if (j >= m) {
                sum += choices * power(stays, j) * power(leaves, k - j);
            }
            choices = choices * (k - j) / (j + 1);
        }
        return sum;
    }

    private static long commonDivisor(long one, long other) {
        long a = one;
        long b = other;
        // Euclid halves the greater one every two rounds: 200 is far above what a long can need
        for (int i = 0; i < 200 && b != 0; i++) {
            long rest = a % b;
            a = b;
            b = rest;
        }
        return a;
    }

    /** PEOPLE and WORKS as told, with MAY and HEARS as bits. */
    private static final class Folk {
        int people;
        int works;
        final int[] depth = new int[MOST_PEOPLE];
        final int[] voice = new int[MOST_PEOPLE];
        final int[] may = new int[MOST_PEOPLE];
        final int[] hears = new int[MOST_PEOPLE];
        final int[] needs = new int[MOST_WORKS];
        final int[] noise = new int[MOST_WORKS];

        boolean isPerson(int i) {
            return i >= 0 && i < people && i < MOST_PEOPLE;
        }

        boolean isWork(int i) {
            return i >= 0 && i < works && i < MOST_WORKS;
        }

        boolean areUnlike(int one, int other) {
            return one != other && isPerson(one) && isPerson(other);
        }

        int everyone() {
            return (1 << people) - 1;
        }

        boolean isGroup(int bits, int least, int most) {
            int size = Integer.bitCount(bits);
            return (bits & ~everyone()) == 0 && size >= least && size <= most;
        }

        void copy(Folk from) {
            people = from.people;
            works = from.works;
            System.arraycopy(from.depth, 0, depth, 0, MOST_PEOPLE);
            System.arraycopy(from.voice, 0, voice, 0, MOST_PEOPLE);
            System.arraycopy(from.may, 0, may, 0, MOST_PEOPLE);
            System.arraycopy(from.hears, 0, hears, 0, MOST_PEOPLE);
            System.arraycopy(from.needs, 0, needs, 0, MOST_WORKS);
            System.arraycopy(from.noise, 0, noise, 0, MOST_WORKS);
        }
    }

    /** What a STEP changes, but for KEPT. Those not told yet are IDLE and owe nothing here too. */
    private static final class Night {
        static final int PAIRS = MOST_PEOPLE * MOST_PEOPLE;
        static final int ROW = MOST_PEOPLE * 4 + PAIRS + MOST_WORKS + 2;

        final int[] doing = new int[MOST_PEOPLE];
        final int[] with = {NONE, NONE, NONE, NONE, NONE, NONE, NONE, NONE};
        final int[] on = new int[MOST_PEOPLE];
        final int[] dream = new int[MOST_PEOPLE];
        final int[] owes = new int[PAIRS];
        final int[] done = new int[MOST_WORKS];
        int hour;
        int x = FIRST_X;

        int those(int what) {
            int bits = 0;
            for (int p = 0; p < MOST_PEOPLE; p++) {
                if (doing[p] == what) {
                    bits |= 1 << p;
                }
            }
            return bits;
        }

        boolean sleepsFor(int person, int whom) {
            return doing[person] == ASLEEP && with[person] == whom;
        }

        void begin(int person, int what, int whomOrWork) {
            doing[person] = what;
            with[person] = whomOrWork;
            on[person] = 0;
        }

        void makeIdle(int bits) {
            for (int p = 0; p < MOST_PEOPLE; p++) {
                if ((bits >> p & 1) == 1) {
                    begin(p, IDLE, NONE);
                }
            }
        }

        int draw(int by) {
            int drawn = by > 0 ? x % by : 0;
            x = (x * 241 + 139) % 30211;
            return drawn;
        }

        void save(int[] rows, int at) {
            if (at < 0 || at > rows.length - ROW) {
                return;
            }
            System.arraycopy(doing, 0, rows, at, MOST_PEOPLE);
            System.arraycopy(with, 0, rows, at + MOST_PEOPLE, MOST_PEOPLE);
            System.arraycopy(on, 0, rows, at + 2 * MOST_PEOPLE, MOST_PEOPLE);
            System.arraycopy(dream, 0, rows, at + 3 * MOST_PEOPLE, MOST_PEOPLE);
            System.arraycopy(owes, 0, rows, at + 4 * MOST_PEOPLE, PAIRS);
            System.arraycopy(done, 0, rows, at + 4 * MOST_PEOPLE + PAIRS, MOST_WORKS);
            rows[at + ROW - 2] = hour;
            rows[at + ROW - 1] = x;
        }

        void load(int[] rows, int at) {
            if (at < 0 || at > rows.length - ROW) {
                return;
            }
            System.arraycopy(rows, at, doing, 0, MOST_PEOPLE);
            System.arraycopy(rows, at + MOST_PEOPLE, with, 0, MOST_PEOPLE);
            System.arraycopy(rows, at + 2 * MOST_PEOPLE, on, 0, MOST_PEOPLE);
            System.arraycopy(rows, at + 3 * MOST_PEOPLE, dream, 0, MOST_PEOPLE);
            System.arraycopy(rows, at + 4 * MOST_PEOPLE, owes, 0, PAIRS);
            System.arraycopy(rows, at + 4 * MOST_PEOPLE + PAIRS, done, 0, MOST_WORKS);
            hour = rows[at + ROW - 2];
            x = rows[at + ROW - 1];
        }

        void copy(Night from) {
            System.arraycopy(from.doing, 0, doing, 0, MOST_PEOPLE);
            System.arraycopy(from.with, 0, with, 0, MOST_PEOPLE);
            System.arraycopy(from.on, 0, on, 0, MOST_PEOPLE);
            System.arraycopy(from.dream, 0, dream, 0, MOST_PEOPLE);
            System.arraycopy(from.owes, 0, owes, 0, PAIRS);
            System.arraycopy(from.done, 0, done, 0, MOST_WORKS);
            hour = from.hour;
            x = from.x;
        }
    }

    /** The latest STEPS, each as the NIGHT ahead of it; all in one row, so that an IMAGE is cheap. */
    private static final class Steps {
        private final int[] rows = new int[MOST_STEPS * Night.ROW];
        private int oldest;
        int count;

        void push(Night night) {
            night.save(rows, (oldest + count) % MOST_STEPS * Night.ROW);
            if (count < MOST_STEPS) {
                count++;
            } else {
                oldest = (oldest + 1) % MOST_STEPS;
            }
        }

        boolean pop(Night night) {
            if (count == 0) {
                return false;
            }
            count--;
            night.load(rows, (oldest + count) % MOST_STEPS * Night.ROW);
            return true;
        }

        void copy(Steps from) {
            System.arraycopy(from.rows, 0, rows, 0, rows.length);
            oldest = from.oldest;
            count = from.count;
        }
    }

    /** All that an IMAGE holds. */
    private static final class Valley {
        final Folk folk = new Folk();
        final Night night = new Night();
        final Steps steps = new Steps();
        /**
         * By HOUR: who RAN, STOPPED, was ASLEEP, eight bits each. No HOUR is ever dropped, so that
         * taking a STEP back has just to set HOUR back, and the HOURS ahead of it are KEPT again.
         */
        final int[] log = new int[LAST_HOUR];
        int texts;
        int ruling = NONE;

        int firstKept() {
            return Math.max(0, night.hour - MOST_HOURS);
        }

        void copy(Valley from) {
            folk.copy(from.folk);
            night.copy(from.night);
            steps.copy(from.steps);
            System.arraycopy(from.log, 0, log, 0, log.length);
            texts = from.texts;
            ruling = from.ruling;
        }
    }

    /**
     * A TEXT that was read: its CLAUSES, and its laws as words of a stack machine. A word is
     * 64 times a number (or the place to go on at), and the TOKEN kind that does it.
     */
    private static final class Text {
        final int[] kind = new int[MOST_CLAUSES];
        final int[] first = new int[MOST_CLAUSES];
        final int[] second = new int[MOST_CLAUSES];
        final int[] third = new int[MOST_CLAUSES];
        int clauses;
        final int[] lawAt = {NONE, NONE, NONE, NONE};
        /** A TOKEN makes one word at most, and has one byte at least. */
        final int[] code = new int[MOST_BYTES];
        int size;

        void clear() {
            clauses = 0;
            size = 0;
            for (int law = 0; law < LAWS; law++) {
                lawAt[law] = NONE;
            }
        }

        void put(int word) {
            if (size < code.length) {
                code[size] = word;
                size++;
            }
        }

        void goOnHere(int jump) {
            if (jump >= 0 && jump < size) {
                code[jump] = size * 64 + (code[jump] & 63);
            }
        }

        void copy(Text from) {
            System.arraycopy(from.kind, 0, kind, 0, MOST_CLAUSES);
            System.arraycopy(from.first, 0, first, 0, MOST_CLAUSES);
            System.arraycopy(from.second, 0, second, 0, MOST_CLAUSES);
            System.arraycopy(from.third, 0, third, 0, MOST_CLAUSES);
            System.arraycopy(from.lawAt, 0, lawAt, 0, LAWS);
            System.arraycopy(from.code, 0, code, 0, from.size);
            clauses = from.clauses;
            size = from.size;
        }
    }

    /** Reads the tape: splits it into TOKENS, then goes through them to the first FAULT; every part answers whether it is good. */
    private static final class Reader {
        private final int[] tape;
        private int length;
        private int next;
        private final int[] kinds = new int[MOST_BYTES + 1];
        private final int[] starts = new int[MOST_BYTES + 1];
        private final int[] numbers = new int[MOST_BYTES + 1];
        private int tokens;
        private int at;
        private int kind;
        private int law;
        final Text draft = new Text();
        int fault = NONE;
        int place = NONE;

        Reader(int[] tape) {
            this.tape = tape;
        }

        boolean read(int bytes) {
            length = Math.min(bytes, tape.length);
            split();
            fault = 0;
            place = NONE;
            draft.clear();
            at = 0;
            kind = kinds[0];
            // a CLAUSE takes TOKENS, so there are never more of them than bytes
            for (int i = 0; i <= MOST_BYTES && kind != TAPE_END; i++) {
                if (!clause()) {
                    return false;
                }
            }
            return true;
        }

        private void advance() {
            // the TOKEN of the end is never gone beyond
            at = Math.min(at + 1, tokens - 1);
            kind = kinds[at];
        }

        private boolean refuse(int what) {
            fault = what;
            place = starts[at];
            return false;
        }

        private boolean take(int wanted) {
            if (kind != wanted) {
                return refuse(1);
            }
            advance();
            return true;
        }

        private boolean clause() {
            int what = kind;
            int i = draft.clauses;
            if (what > DO_HOUR) {
                return refuse(1);
            }
            if (what < LAWS && draft.lawAt[what] != NONE) {
                return refuse(4);
            }
            if (i >= MOST_CLAUSES) {
                return refuse(6);
            }
            draft.clauses = i + 1;
            draft.kind[i] = what;
            advance();
            boolean good = what < LAWS ? lawOf(what) : deed(what, i);
            return good && take(STOP);
        }

        private boolean lawOf(int what) {
            law = what;
            draft.lawAt[what] = draft.size;
            boolean good = sum(0);
            draft.put(STOP);
            return good;
        }

        private boolean deed(int what, int i) {
            if (!numberOf(draft.first, i, what == DO_HOUR ? 1 : 0, what == DO_HOUR ? MOST_HOURS : MOST_PEOPLE - 1)) {
                return false;
            }
            switch (what) {
                case DO_WAKE:
                    return take(AT) && numberOf(draft.second, i, 0, MOST_WORKS - 1);
                case DO_SLEEP:
                    return take(FOR) && numberOf(draft.second, i, 0, MOST_PEOPLE - 1);
                case DO_REPAY:
                    return take(TO) && numberOf(draft.second, i, 0, MOST_PEOPLE - 1)
                            && take(BY) && numberOf(draft.third, i, 1, MOST_NAPS);
                default:
                    return true;
            }
        }

        private boolean numberOf(int[] row, int i, int least, int most) {
            if (kind != NUMBER) {
                return refuse(1);
            }
            if (numbers[at] < least || numbers[at] > most) {
                return refuse(2);
            }
            if (i >= 0 && i < row.length) {
                row[i] = numbers[at];
            }
            advance();
            return true;
        }

        private boolean sum(int open) {
            boolean good = product(open);
            for (int i = 0; i < MOST_BYTES && good && (kind == PLUS || kind == MINUS); i++) {
                int sign = kind;
                advance();
                good = product(open);
                draft.put(sign);
            }
            return good;
        }

        private boolean product(int open) {
            boolean good = one(open);
            for (int i = 0; i < MOST_BYTES && good && (kind == TIMES || kind == OVER); i++) {
                int sign = kind;
                advance();
                good = one(open);
                draft.put(sign);
            }
            return good;
        }

        private boolean one(int open) {
            if (kind == NUMBER) {
                return plainNumber();
            }
            if (kind >= FIRST_NAME && kind < FIRST_NAME + NAMES) {
                return name();
            }
            if (kind != OPENED && kind != MINUS && kind != IF) {
                return refuse(1);
            }
            if (open >= MOST_OPEN) {
                return refuse(3);
            }
            if (kind == IF) {
                return choice(open + 1);
            }
            boolean negated = kind == MINUS;
            advance();
            if (!negated) {
                return sum(open + 1) && take(CLOSED);
            }
            boolean good = one(open + 1);
            draft.put(NEGATE);
            return good;
        }

        private boolean plainNumber() {
            if (numbers[at] > MOST_NUMBER) {
                return refuse(2);
            }
            draft.put(numbers[at] * 64 + NUMBER);
            advance();
            return true;
        }

        private boolean name() {
            if (law < 0 || law >= LAWS || (NAMES_OF[law] >> kind - FIRST_NAME & 1) == 0) {
                return refuse(5);
            }
            draft.put(kind);
            advance();
            return true;
        }

        private boolean choice(int open) {
            advance();
            if (!either(open) || !take(THEN)) {
                return false;
            }
            int unlessAsked = draft.size;
            draft.put(THEN);
            if (!sum(open) || !take(ELSE)) {
                return false;
            }
            int overElse = draft.size;
            draft.put(ELSE);
            draft.goOnHere(unlessAsked);
            if (!sum(open) || !take(END)) {
                return false;
            }
            draft.goOnHere(overElse);
            return true;
        }

        private boolean either(int open) {
            boolean good = both(open);
            for (int i = 0; i < MOST_BYTES && good && kind == OR; i++) {
                advance();
                good = both(open);
                draft.put(OR);
            }
            return good;
        }

        private boolean both(int open) {
            boolean good = ask(open);
            for (int i = 0; i < MOST_BYTES && good && kind == AND; i++) {
                advance();
                good = ask(open);
                draft.put(AND);
            }
            return good;
        }

        private boolean ask(int open) {
            if (kind == NOT) {
                if (open >= MOST_OPEN) {
                    return refuse(3);
                }
                advance();
                boolean good = ask(open + 1);
                draft.put(NOT);
                return good;
            }
            if (!sum(open)) {
                return false;
            }
            int sign = kind;
            if (sign < LESS || sign > UNLIKE) {
                return refuse(1);
            }
            advance();
            boolean good = sum(open);
            draft.put(sign);
            return good;
        }

        private int byteAt(int i) {
            return i >= 0 && i < length ? tape[i] : NONE;
        }

        private static boolean isLetter(int sign) {
            return sign >= 'a' && sign <= 'z' || sign >= 'A' && sign <= 'Z';
        }

        private static boolean isDigit(int sign) {
            return sign >= '0' && sign <= '9';
        }

        private void split() {
            next = 0;
            tokens = 0;
            for (int i = 0; i <= MOST_BYTES && next < length; i++) {
                int sign = tape[next];
                if (sign == ' ' || sign == '\n') {
                    next++;
                } else {
                    starts[tokens] = next;
                    kinds[tokens] = isLetter(sign) ? wordHere() : isDigit(sign) ? numberHere() : signHere(sign);
                    tokens++;
                }
            }
            starts[tokens] = length;
            kinds[tokens] = TAPE_END;
            tokens++;
        }

        private int wordHere() {
            int start = next;
            while (next < length && isLetter(tape[next])) {
                next++;
            }
            for (int word = 0; word < WORD_COUNT; word++) {
                if (isWord(word, start)) {
                    return word;
                }
            }
            return NO_TOKEN;
        }

        private boolean isWord(int word, int start) {
            int signs = next - start;
            if (signs > WORD_SIGNS) {
                return false;
            }
            for (int i = 0; i < WORD_SIGNS; i++) {
                int sign = i < signs ? byteAt(start + i) : ' ';
                if (WORDS.charAt(word * WORD_SIGNS + i) != sign) {
                    return false;
                }
            }
            return true;
        }

        private int numberHere() {
            int number = 0;
            while (next < length && isDigit(tape[next])) {
                // it stays one above the greatest NUMBER, however many digits follow
                number = Math.min(number * 10 + tape[next] - '0', MOST_NUMBER + 1);
                next++;
            }
            numbers[tokens] = number;
            return NUMBER;
        }

        private int signHere(int sign) {
            next++;
            boolean withLike = byteAt(next) == '=';
            if (withLike && (sign == '<' || sign == '>')) {
                next++;
            }
            switch (sign) {
                case '<': return withLike ? LESS_OR_LIKE : LESS;
                case '>': return withLike ? MORE_OR_LIKE : MORE;
                case '=': return LIKE;
                case '#': return UNLIKE;
                case '+': return PLUS;
                case '-': return MINUS;
                case '*': return TIMES;
                case '/': return OVER;
                case '(': return OPENED;
                case ')': return CLOSED;
                case ';': return STOP;
                default: return NO_TOKEN;
            }
        }
    }

    /** What worth, burn, sound and price are by THE TEXT, or without. */
    private static final class Laws {
        private final Valley valley;
        private final Text[] texts;
        private final int[] names = new int[NAMES];
        /** Eight that are open leave five values each behind them at most. */
        private final int[] stack = new int[64];

        Laws(Valley valley, Text[] texts) {
            this.valley = valley;
            this.texts = texts;
        }

        int worthOf(int sleeper, int whom, int on, int dream, int now) {
            if (!isLaw(WORTH)) {
                return 10;
            }
            names[WHO] = sleeper;
            names[NOW] = now;
            names[ON] = on;
            names[DEPTH] = valley.folk.depth[sleeper];
            names[DREAM] = dream;
            names[WHOM] = whom;
            return valueOf(WORTH, 99);
        }

        int burnOf(int waker, int work, int on, int now) {
            if (!isLaw(BURN)) {
                return 10;
            }
            names[WHO] = waker;
            names[NOW] = now;
            names[ON] = on;
            names[TASK] = work;
            names[NOISE] = valley.folk.isWork(work) ? valley.folk.noise[work] : 0;
            return valueOf(BURN, 99);
        }

        int soundOf(int person, int on, int now) {
            if (!isLaw(SOUND)) {
                return valley.folk.depth[person];
            }
            names[WHO] = person;
            names[NOW] = now;
            names[ON] = on;
            names[DEPTH] = valley.folk.depth[person];
            return valueOf(SOUND, 99);
        }

        int priceOf(int sleeper, int owed, int now) {
            if (!isLaw(PRICE)) {
                return 1;
            }
            names[WHO] = sleeper;
            names[NOW] = now;
            names[DEPTH] = valley.folk.depth[sleeper];
            names[OWED] = owed;
            return valueOf(PRICE, 999);
        }

        int worthNow(Night night, int sleeper, int dream) {
            return worthOf(sleeper, night.with[sleeper], night.on[sleeper], dream, night.hour);
        }

        int burnNow(Night night, int waker) {
            return burnOf(waker, night.with[waker], night.on[waker], night.hour);
        }

        int fuelNow(Night night, int waker) {
            int fuel = 0;
            for (int p = 0; p < MOST_PEOPLE; p++) {
                if (night.sleepsFor(p, waker)) {
                    fuel += worthOf(p, waker, night.on[p], night.dream[p], night.hour);
                }
            }
            return fuel;
        }

        private boolean isLaw(int law) {
            int ruling = valley.ruling;
            return ruling >= 0 && ruling < texts.length && texts[ruling].lawAt[law] != NONE;
        }

        private int valueOf(int law, int most) {
            Text text = texts[valley.ruling];
            int at = text.lawAt[law];
            int depth = 0;
            // all jumps go forward, so no word is done twice
            for (int i = 0; i < MOST_BYTES && at >= 0 && at < text.size && text.code[at] != STOP; i++) {
                int word = text.code[at];
                int kind = word & 63;
                at++;
                if (kind == NUMBER || kind >= FIRST_NAME && kind < FIRST_NAME + NAMES) {
                    if (depth < stack.length) {
                        stack[depth] = kind == NUMBER ? word >> 6 : names[kind - FIRST_NAME];
                        depth++;
                    }
                } else if (kind == ELSE) {
                    at = word >> 6;
                } else if (kind == THEN && depth > 0) {
                    depth--;
                    at = stack[depth] == 0 ? word >> 6 : at;
                } else if (kind == NEGATE && depth > 0) {
                    stack[depth - 1] = -stack[depth - 1];
                } else if (kind == NOT && depth > 0) {
                    stack[depth - 1] = 1 - stack[depth - 1];
                } else if (depth > 1) {
                    depth--;
                    stack[depth - 1] = joined(kind, stack[depth - 1], stack[depth]);
                }
            }
            return depth > 0 ? Math.max(0, Math.min(most, stack[depth - 1])) : 0;
        }

        private static int joined(int kind, int left, int right) {
            long value = 0;
            switch (kind) {
                case PLUS: value = left + right; break;
                case MINUS: value = left - right; break;
                case TIMES: value = (long) left * right; break;
                case OVER: value = right == 0 ? 0 : left / right; break;
                case LESS: value = left < right ? 1 : 0; break;
                case LESS_OR_LIKE: value = left <= right ? 1 : 0; break;
                case MORE: value = left > right ? 1 : 0; break;
                case MORE_OR_LIKE: value = left >= right ? 1 : 0; break;
                case LIKE: value = left == right ? 1 : 0; break;
                case UNLIKE: value = left != right ? 1 : 0; break;
                case OR: value = left | right; break;
                case AND: value = left & right; break;
                default: break;
            }
            if (value > MOST_VALUE) {
                return MOST_VALUE;
            }
            return value < -MOST_VALUE ? -MOST_VALUE : (int) value;
        }
    }

    /** Lets HOURS pass in a NIGHT, the true one or one that is foretold, and tells who wakes whom. */
    private static final class Clock {
        private final Folk folk;
        private final Laws laws;
        private final int[] sound = new int[MOST_PEOPLE];
        /** By one that is ASLEEP: whose VOICES wake it (bits). */
        private final int[] loud = new int[MOST_PEOPLE];
        int ran;
        int stopped;
        int slept;

        Clock(Folk folk, Laws laws) {
            this.folk = folk;
            this.laws = laws;
        }

        void pass(Night night) {
            ran = 0;
            stopped = 0;
            slept = night.those(ASLEEP);
            for (int p = 0; p < MOST_PEOPLE; p++) {
                if (night.doing[p] == ASLEEP) {
                    night.dream[p] = night.draw(10);
                }
            }
            for (int p = 0; p < MOST_PEOPLE; p++) {
                if (night.doing[p] != AWAKE) {
                    continue;
                }
                if (laws.fuelNow(night, p) >= laws.burnNow(night, p)) {
                    ran |= 1 << p;
                    goForward(night, p);
                } else {
                    stopped |= 1 << p;
                }
            }
            listen(night);
            night.makeIdle(stopped | spread(wokenByNoise(night), slept));
            for (int p = 0; p < MOST_PEOPLE; p++) {
                if (night.doing[p] != IDLE) {
                    night.on[p]++;
                }
            }
            night.hour++;
        }

        private void goForward(Night night, int waker) {
            int work = night.with[waker];
            if (folk.isWork(work)) {
                night.done[work] = Math.min(folk.needs[work], night.done[work] + 1);
            }
            for (int p = 0; p < MOST_PEOPLE; p++) {
                if (night.sleepsFor(p, waker)) {
                    int pair = waker * MOST_PEOPLE + p;
                    night.owes[pair] = Math.min(MOST_NAPS, night.owes[pair] + 1);
                }
            }
        }

        private int wokenByNoise(Night night) {
            int woken = 0;
            for (int p = 0; p < MOST_PEOPLE; p++) {
                if (night.doing[p] == ASLEEP && isNoiseAbove(night, folk.hears[p] & ran, sound[p])) {
                    woken |= 1 << p;
                }
            }
            return woken;
        }

        private boolean isNoiseAbove(Night night, int runners, int asleepSound) {
            for (int p = 0; p < MOST_PEOPLE; p++) {
                int work = night.with[p];
                if ((runners >> p & 1) == 1 && folk.isWork(work) && folk.noise[work] > asleepSound) {
                    return true;
                }
            }
            return false;
        }

        /** How sound all that are ASLEEP sleep, and whom they would be WOKEN by. */
        void listen(Night night) {
            for (int p = 0; p < MOST_PEOPLE; p++) {
                if (night.doing[p] != ASLEEP) {
                    continue;
                }
                sound[p] = laws.soundOf(p, night.on[p], night.hour);
                loud[p] = 0;
                for (int q = 0; q < MOST_PEOPLE; q++) {
                    if ((folk.hears[p] >> q & 1) == 1 && folk.voice[q] > sound[p]) {
                        loud[p] |= 1 << q;
                    }
                }
            }
        }

        /** Who is WOKEN in the end, by rounds of VOICES among these sleepers, as they were listened to. */
        int spread(int wokenFirst, int sleepers) {
            int woken = wokenFirst;
            int before = 0;
            for (int round = 0; round < MOST_PEOPLE && woken != before; round++) {
                before = woken;
                for (int p = 0; p < MOST_PEOPLE; p++) {
                    if ((sleepers >> p & 1) == 1 && (loud[p] & woken) != 0) {
                        woken |= 1 << p;
                    }
                }
            }
            return woken;
        }

        int wokenBy(Night night, int person) {
            listen(night);
            return spread(1 << person, night.those(ASLEEP));
        }
    }

    /** WHO SLEEPS FOR WHOM, and WHO CAN'T. */
    private static final class Pairing {
        private static final int MOST_WAKERS = 4;
        private static final int MOST_SLEEPERS = 6;
        private static final int MOST_COST = 1000000;

        private final Valley valley;
        private final Laws laws;
        private final int[] waker = new int[MOST_WAKERS];
        private final int[] sleeper = new int[MOST_SLEEPERS];
        private int wakers;
        private int sleepers;
        private final int[] burn = new int[MOST_WAKERS];
        /** By sleeper and waker; NONE where it may not. */
        private final int[] worth = new int[MOST_SLEEPERS * MOST_WAKERS];
        private final int[] price = new int[MOST_SLEEPERS * MOST_WAKERS];
        /** By sleeper and waker: what this sleeper and all behind it could give that waker. */
        private final int[] rest = new int[(MOST_SLEEPERS + 1) * MOST_WAKERS];
        private int leastPrice;
        private final int[] fuel = new int[MOST_WAKERS];
        private final int[] choice = new int[MOST_SLEEPERS];
        private final int[] best = new int[MOST_SLEEPERS];
        private int bestCount;
        int bestCost;

        Pairing(Valley valley, Laws laws) {
            this.valley = valley;
            this.laws = laws;
        }

        private static int list(int bits, int[] row) {
            int size = 0;
            for (int p = 0; p < MOST_PEOPLE && size < row.length; p++) {
                if ((bits >> p & 1) == 1) {
                    row[size] = p;
                    size++;
                }
            }
            return size;
        }

        void prepare(int wakerBits, int work, int sleeperBits, boolean dear) {
            wakers = list(wakerBits, waker);
            sleepers = list(sleeperBits, sleeper);
            leastPrice = MOST_COST;
            for (int w = 0; w < wakers; w++) {
                burn[w] = laws.burnOf(waker[w], work, 0, valley.night.hour);
                rest[sleepers * MOST_WAKERS + w] = 0;
            }
            for (int s = sleepers - 1; s >= 0; s--) {
                for (int w = 0; w < wakers; w++) {
                    weigh(s, w, dear);
                }
            }
        }

        private void weigh(int s, int w, boolean dear) {
            int now = valley.night.hour;
            int pair = s * MOST_WAKERS + w;
            boolean allowed = (valley.folk.may[sleeper[s]] >> waker[w] & 1) == 1;
            worth[pair] = allowed ? laws.worthOf(sleeper[s], waker[w], 0, 0, now) : NONE;
            rest[pair] = rest[pair + MOST_WAKERS] + Math.max(0, worth[pair]);
            if (allowed) {
                // where it isn't dear each costs one, so that the least cost is the fewest
                int owed = valley.night.owes[waker[w] * MOST_PEOPLE + sleeper[s]];
                price[pair] = dear ? laws.priceOf(sleeper[s], owed, now) : 1;
                leastPrice = Math.min(leastPrice, price[pair]);
            }
        }

        boolean solve() {
            bestCost = MOST_COST;
            bestCount = MOST_COST;
            for (int w = 0; w < wakers; w++) {
                fuel[w] = 0;
            }
            search(0, 0, 0);
            return bestCount < MOST_COST;
        }

        /** Goes through the choices in the order in which the first of like ones is wanted. */
        private void search(int s, int count, int cost) {
            if (!isWorthwhile(s, count, cost)) {
                return;
            }
            if (s >= sleepers || s >= MOST_SLEEPERS) {
                bestCost = cost;
                bestCount = count;
                System.arraycopy(choice, 0, best, 0, MOST_SLEEPERS);
                return;
            }
            for (int w = 0; w < wakers; w++) {
                int pair = s * MOST_WAKERS + w;
                if (worth[pair] != NONE) {
                    choice[s] = waker[w];
                    fuel[w] += worth[pair];
                    search(s + 1, count + 1, cost + price[pair]);
                    fuel[w] -= worth[pair];
                }
            }
            choice[s] = FOR_NONE;
            search(s + 1, count, cost);
        }

        /** Whether all burns can be met yet, by less than the best so far. */
        private boolean isWorthwhile(int s, int count, int cost) {
            int unmet = 0;
            for (int w = 0; w < wakers; w++) {
                int missing = burn[w] - fuel[w];
                if (missing > rest[s * MOST_WAKERS + w]) {
                    return false;
                }
                unmet += missing > 0 ? 1 : 0;
            }
            int costThen = cost + (unmet > 0 ? unmet * leastPrice : 0);
            return costThen < bestCost || costThen == bestCost && count + unmet < bestCount;
        }

        int whomFor(int person) {
            for (int s = 0; s < sleepers; s++) {
                if (sleeper[s] == person) {
                    return best[s];
                }
            }
            return NONE;
        }

        int lowestShort() {
            for (int group = 1; group < 1 << wakers; group++) {
                if (burnOfGroup(group) > worthForGroup(group)) {
                    return peopleOf(group);
                }
            }
            return NONE;
        }

        private int burnOfGroup(int group) {
            int sum = 0;
            for (int w = 0; w < wakers; w++) {
                sum += (group >> w & 1) == 1 ? burn[w] : 0;
            }
            return sum;
        }

        private int worthForGroup(int group) {
            int sum = 0;
            for (int s = 0; s < sleepers; s++) {
                int greatest = 0;
                for (int w = 0; w < wakers; w++) {
                    if ((group >> w & 1) == 1) {
                        greatest = Math.max(greatest, worth[s * MOST_WAKERS + w]);
                    }
                }
                sum += greatest;
            }
            return sum;
        }

        private int peopleOf(int group) {
            int bits = 0;
            for (int w = 0; w < wakers; w++) {
                bits |= (group >> w & 1) << waker[w];
            }
            return bits;
        }
    }

    /** A ROTA of relief. */
    private static final class Rota {
        private static final int MOST_ROTA_HOURS = 8;
        private static final int MOST_CHANGES = 100;
        /** So long ago that whoever last slept then is rested. */
        private static final int LONG_AGO = -100;

        private int hours;
        private int people;
        private int onEnd;
        private int relief;
        private final int[] lastSlept = new int[MOST_PEOPLE];
        private final int[] plan = new int[MOST_ROTA_HOURS];
        private final int[] best = new int[MOST_ROTA_HOURS];
        int bestChanges;

        void prepare(int n, int group, int e, int r) {
            hours = Math.min(n, MOST_ROTA_HOURS);
            people = group;
            onEnd = e;
            relief = r;
            bestChanges = MOST_CHANGES;
            for (int p = 0; p < MOST_PEOPLE; p++) {
                lastSlept[p] = LONG_AGO;
            }
        }

        boolean solve() {
            for (int p = 0; p < MOST_PEOPLE; p++) {
                if ((people >> p & 1) == 1) {
                    place(0, p, 1, 0);
                }
            }
            return bestChanges < MOST_CHANGES;
        }

        /** This one sleeps in this hour, for the run-th time on end; then all that can follow. */
        private void place(int hour, int person, int run, int changes) {
            if (hour >= hours || changes + changesToCome(hour, run) >= bestChanges) {
                return;
            }
            plan[hour] = person;
            if (hour == hours - 1) {
                bestChanges = changes;
                System.arraycopy(plan, 0, best, 0, MOST_ROTA_HOURS);
                return;
            }
            int before = lastSlept[person];
            lastSlept[person] = hour;
            for (int p = 0; p < MOST_PEOPLE; p++) {
                if ((people >> p & 1) == 0) {
                    continue;
                }
                if (p == person && run < onEnd) {
                    place(hour + 1, p, run + 1, changes);
                } else if (p != person && hour - lastSlept[p] >= relief) {
                    place(hour + 1, p, 1, changes + 1);
                }
            }
            lastSlept[person] = before;
        }

        /** At least so many: each change brings onEnd HOURS at most. */
        private int changesToCome(int hour, int run) {
            int uncovered = hours - 1 - hour - (onEnd - run);
            return uncovered <= 0 || onEnd < 1 ? 0 : (uncovered + onEnd - 1) / onEnd;
        }

        int whoIn(int hour) {
            return hour >= 0 && hour < hours ? best[hour] : NONE;
        }
    }

    /** The other questions, which change nothing. */
    private static final class Questions {
        private final Valley valley;
        private final Laws laws;
        private final Clock clock;
        private final int[] debts = new int[MOST_PEOPLE];
        private final int[] distance = new int[MOST_PEOPLE];
        private final int[] worth = new int[MOST_PEOPLE];

        Questions(Valley valley, Laws laws, Clock clock) {
            this.valley = valley;
            this.laws = laws;
            this.clock = clock;
        }

        /** The TIER of another one, or (other NONE) how many are in all TIERS but 0. */
        int tierBehind(int person, int other) {
            if (other == person) {
                return 0;
            }
            int seen = 1 << person;
            int last = seen;
            for (int tier = 1; tier <= MOST_PEOPLE && last != 0; tier++) {
                int found = 0;
                for (int p = 0; p < MOST_PEOPLE; p++) {
                    if ((seen >> p & 1) == 0 && (valley.folk.may[p] & last) != 0) {
                        found |= 1 << p;
                    }
                }
                if (other != NONE && (found >> other & 1) == 1) {
                    return tier;
                }
                seen |= found;
                last = found;
            }
            return other == NONE ? Integer.bitCount(seen) - 1 : NONE;
        }

        int leastGuard(int person, int people) {
            Night night = valley.night;
            int sleepers = night.those(ASLEEP);
            clock.listen(night);
            int others = sleepers & ~(1 << person);
            int best = others;
            for (int guarded = 0; guarded < others; guarded++) {
                boolean fewer = Integer.bitCount(guarded) < Integer.bitCount(best);
                if (fewer && (guarded & ~others) == 0
                        && (clock.spread(1 << person, sleepers & ~guarded) & people) == 0) {
                    best = guarded;
                }
            }
            return best;
        }

        /** Of the RING: how many (NONE), the least owed around it (OTHER), or the i-th. */
        int ofRing(int i) {
            listDebts();
            int first = NONE;
            int fewest = MOST_PEOPLE + 1;
            for (int p = 0; p < MOST_PEOPLE; p++) {
                int length = ringFrom(p);
                if (length != NONE && length < fewest) {
                    fewest = length;
                    first = p;
                }
            }
            if (first == NONE || i == NONE) {
                return first == NONE ? NONE : fewest;
            }
            ringFrom(first);
            return i < fewest ? alongRing(first, fewest, i) : NONE;
        }

        private void listDebts() {
            for (int p = 0; p < MOST_PEOPLE; p++) {
                debts[p] = 0;
                for (int q = 0; q < MOST_PEOPLE; q++) {
                    if (valley.night.owes[p * MOST_PEOPLE + q] > 0) {
                        debts[p] |= 1 << q;
                    }
                }
            }
        }

        /** The length of the shortest RING whose lowest one is first; distances to it stay behind. */
        private int ringFrom(int first) {
            for (int p = 0; p < MOST_PEOPLE; p++) {
                distance[p] = NONE;
            }
            int last = 1 << first;
            for (int steps = 1; steps <= MOST_PEOPLE && last != 0; steps++) {
                if ((debts[first] & last) != 0) {
                    return steps;
                }
                int found = 0;
                for (int p = first + 1; p < MOST_PEOPLE; p++) {
                    if (distance[p] == NONE && (debts[p] & last) != 0) {
                        distance[p] = steps;
                        found |= 1 << p;
                    }
                }
                last = found;
            }
            return NONE;
        }

        private int alongRing(int first, int length, int i) {
            int least = MOST_NAPS;
            int at = first;
            for (int gone = 0; gone < length; gone++) {
                if (gone == i) {
                    return at;
                }
                int next = gone == length - 1 ? first : nextInRing(at, length - 1 - gone);
                if (next == NONE) {
                    return NONE;
                }
                least = Math.min(least, valley.night.owes[at * MOST_PEOPLE + next]);
                at = next;
            }
            return least;
        }

        private int nextInRing(int at, int toGo) {
            for (int p = 0; p < MOST_PEOPLE; p++) {
                if ((debts[at] >> p & 1) == 1 && distance[p] == toGo) {
                    return p;
                }
            }
            return NONE;
        }

        /** What all that are ASLEEP are worth without DREAMS. */
        private void weighDreamless() {
            for (int p = 0; p < MOST_PEOPLE; p++) {
                worth[p] = valley.night.doing[p] == ASLEEP ? laws.worthNow(valley.night, p, 0) : 0;
            }
        }

        private int fuelWithout(int waker, int people) {
            int fuel = 0;
            for (int p = 0; p < MOST_PEOPLE; p++) {
                if ((people >> p & 1) == 0 && valley.night.sleepsFor(p, waker)) {
                    fuel += worth[p];
                }
            }
            return fuel;
        }

        int stoppedWithout(int people) {
            Night night = valley.night;
            weighDreamless();
            int bits = 0;
            for (int p = 0; p < MOST_PEOPLE; p++) {
                if (night.doing[p] == AWAKE && fuelWithout(p, people) < laws.burnNow(night, p)) {
                    bits |= 1 << p;
                }
            }
            return bits;
        }

        int leastStrike(int person) {
            weighDreamless();
            int burn = laws.burnNow(valley.night, person);
            int sleepers = valley.night.those(ASLEEP);
            int best = NONE;
            for (int group = 0; group <= sleepers; group++) {
                boolean fewer = best == NONE || Integer.bitCount(group) < Integer.bitCount(best);
                if (fewer && (group & ~sleepers) == 0 && fuelWithout(person, group) < burn) {
                    best = group;
                }
            }
            return best;
        }

        int fitting(int person) {
            int fit = valley.folk.everyone();
            boolean seen = false;
            int hours = Math.min(valley.night.hour, valley.log.length);
            for (int hour = valley.firstKept(); hour < hours; hour++) {
                int entry = valley.log[hour];
                int slept = entry >> 16 & 255;
                if ((entry >> person & 1) == 1) {
                    fit &= slept;
                    seen = true;
                }
                if ((entry >> 8 + person & 1) == 1) {
                    fit &= ~slept;
                    seen = true;
                }
            }
            return seen ? fit : NONE;
        }

        int asleepForNobody() {
            Night night = valley.night;
            int awake = night.those(AWAKE);
            int bits = 0;
            for (int p = 0; p < MOST_PEOPLE; p++) {
                if (night.doing[p] == ASLEEP && (awake >> night.with[p] & 1) == 0) {
                    bits |= 1 << p;
                }
            }
            return bits;
        }
    }
}
