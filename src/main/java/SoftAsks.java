import java.util.Arrays;

/** Asks that fail softly: a day of hosts and asks, told as a text and run tick by tick. */
public final class SoftAsks {
    public static final int UNKNOWN = -1, BAD = -2, LATE = -3, FULL = -4, NONE = -9;

    private static final int MAX_LETTERS = 120, MAX_HOSTS = 4, MAX_SPANS = 4, MAX_ASKS = 12;
    private static final int MAX_WORKERS = 3, MAX_DOINGS = 14, MAX_SEEN = 6, SLOTS = 2;
    private static final int LAST_HOUR = 40, LAST_TICK = 79;

    private static final int TRIES = 0, GAIN = 1, HEDGE = 2, BREAKER = 3, SHED = 4, SETTINGS = 5;
    private static final int[] AT_FIRST = {2, 2, 0, 1, 0};
    private static final int[] LEAST = {1, 0, 0, 0, 0};
    private static final int[] MOST = {4, 8, 2, 3, 2};

    private static final int TO_COME = 0, OPEN = 1, DONE = 2, FAILED = 3, EXPIRED = 4;
    private static final int SHUT = 0, OPENED = 1, HALF = 2;

    private static final int TRY_COST = 8, MOST_BUDGET = 80;

    /** In place of a mask of hosts that are spoilt all day: the spans tell when hosts are spoilt. */
    private static final int BY_SPANS = -1;

    private static final int[] FACTORIAL = {1, 1, 2, 6, 24};
    private static final long[] FOUR_FIGURES = {1L, 10000L, 100000000L, 1000000000000L, 10000000000000000L};

    private final int[] letters = new int[MAX_LETTERS];
    private int length = 0;
    private final Parser parser = new Parser(letters);
    private final Told told = new Told();
    private final Told looked = new Told();
    private final Policy policy = new Policy();
    private final Policy trial = new Policy();
    private final Doings doings = new Doings();
    private final Seen seen = new Seen();
    private final Policy[] slots = new Policy[SLOTS];
    private final boolean[] kept = new boolean[SLOTS];
    private final DayRun run = new DayRun(told);
    private final int[] drawnHours = new int[MAX_ASKS];
    private long seedNow = 0L;

    public SoftAsks() {
        for (int i = 0; i < SLOTS; i++) {
            slots[i] = new Policy();
        }
    }

    // ---- the day

    public int write(int letter) {
        if (letter < 0 || letter > 255) {
            return BAD;
        }
        if (length >= MAX_LETTERS) {
            return FULL;
        }
        letters[length] = letter;
        length++;
        return length;
    }

    public int wipe() {
        int was = length;
        length = 0;
        return was;
    }

    public int fault() {
        return parser.read(length, looked);
    }

    public int day() {
        if (parser.read(length, looked) != NONE) {
            return LATE;
        }
        parser.read(length, told);
        policy.reset();
        doings.count = 0;
        for (int i = 0; i < SLOTS; i++) {
            kept[i] = false;
        }
        return told.asks;
    }

    public int about(int what) {
        switch (what) {
            case 0: return told.hosts;
            case 1: return told.asks;
            case 2: return told.spans;
            case 3: return policy.settings[TRIES];
            case 4: return policy.settings[GAIN];
            case 5: return policy.settings[HEDGE];
            case 6: return policy.settings[BREAKER];
            case 7: return policy.settings[SHED];
            case 8: return policy.out;
            case 9: return doings.count;
            case 10: return seen.count;
            case 11: return length;
            default: return BAD;
        }
    }

    // ---- doings

    public int set(int what, int v) {
        if (!Policy.fits(what, v)) {
            return BAD;
        }
        int was = policy.settings[what];
        policy.settings[what] = v;
        doings.add(what, was);
        return was;
    }

    public int turn(int host) {
        if (!told.hasHost(host)) {
            return UNKNOWN;
        }
        int was = policy.out;
        policy.out = was ^ (1 << host);
        doings.add(Doings.TURNED, was);
        return (policy.out >> host) & 1;
    }

    public int undo() {
        if (doings.count == 0) {
            return LATE;
        }
        doings.takeBack(policy);
        return doings.count;
    }

    // ---- the day, run

    public int ask(int ask, int what) {
        if (!told.hasAsk(ask)) {
            return UNKNOWN;
        }
        if (what < 0 || what > 7) {
            return BAD;
        }
        if (what < 3) {
            return told.ofAsk(ask, what);
        }
        run.go(policy, told.hour, BY_SPANS, LAST_TICK);
        return run.ofAsk(ask, what);
    }

    public int host(int host, int what) {
        if (!told.hasHost(host)) {
            return UNKNOWN;
        }
        if (what < 0 || what > 7) {
            return BAD;
        }
        if (what < 3) {
            return told.ofHost(host, what);
        }
        run.go(policy, told.hour, BY_SPANS, LAST_TICK);
        return run.hosts[host].counted(what);
    }

    public int total(int what) {
        if (what < 0 || what > 10) {
            return BAD;
        }
        run.go(policy, told.hour, BY_SPANS, LAST_TICK);
        return run.ofAll(what);
    }

    public int stand(int t, int host, int what) {
        if (t < 0 || t > LAST_TICK) {
            return BAD;
        }
        if (!told.hasHost(host)) {
            return UNKNOWN;
        }
        if (what < 0 || what > 4) {
            return BAD;
        }
        run.go(policy, told.hour, BY_SPANS, t);
        return run.hosts[host].standing(what, t);
    }

    public int best(int what) {
        if (what < 0 || what > 2) {
            return BAD;
        }
        int most = -1;
        int fewest = 0;
        int figures = 0;
        // The figures grow from turn to turn, so of like policies the first one stays.
        for (int tries = LEAST[TRIES]; tries <= MOST[TRIES]; tries++) {
            for (int hedge = LEAST[HEDGE]; hedge <= MOST[HEDGE]; hedge++) {
                for (int breaker = LEAST[BREAKER]; breaker <= MOST[BREAKER]; breaker++) {
                    tryPolicy(tries, hedge, breaker);
                    int done = run.howMany(DONE);
                    int wasted = run.wasted();
                    if (done > most || (done == most && wasted < fewest)) {
                        most = done;
                        fewest = wasted;
                        figures = tries * 100 + hedge * 10 + breaker;
                    }
                }
            }
        }
        return what == 0 ? most : what == 1 ? fewest : figures;
    }

    public int judge(int n, long row) {
        if (n < 1 || n > 4) {
            return BAD;
        }
        if (row < 0L || row >= FOUR_FIGURES[n]) {
            return BAD;
        }
        trial.takeFrom(policy);
        for (int i = 0; i < n; i++) {
            int doing = (int) (row / FOUR_FIGURES[n - 1 - i] % 10000L);
            if (!holds(doing)) {
                return i;
            }
        }
        return NONE;
    }

    // ---- seen

    public int see(int ask, int was) {
        if (!told.hasAsk(ask)) {
            return UNKNOWN;
        }
        if (was < 0 || was > 1) {
            return BAD;
        }
        if (seen.count >= MAX_SEEN) {
            return FULL;
        }
        seen.add(ask, was);
        return seen.count;
    }

    public int unsee() {
        int was = seen.count;
        seen.count = 0;
        return was;
    }

    public int which() {
        int fitting = 0;
        for (int h = 0; h < told.hosts; h++) {
            run.go(policy, told.hour, 1 << h, LAST_TICK);
            if (seen.isSo(run)) {
                fitting |= 1 << h;
            }
        }
        return fitting;
    }

    // ---- shares, chances

    public int share(int host, boolean upper) {
        if (!told.hasHost(host)) {
            return UNKNOWN;
        }
        if (policy.isOut(host)) {
            return LATE;
        }
        int all = (1 << told.hosts) - 1;
        int in = all & ~policy.out;
        int count = Integer.bitCount(in);
        int sum = 0;
        trial.takeFrom(policy);
        for (int come = 0; come <= all; come++) {
            if ((come & ~in) == 0) {
                trial.out = all & ~come;
                run.go(trial, told.hour, BY_SPANS, LAST_TICK);
                sum += run.howMany(DONE) * orders(come, host, count);
            }
        }
        return ofFraction(sum, FACTORIAL[count], upper);
    }

    public int calm(int x, boolean upper) {
        if (x < 0 || x > 10) {
            return BAD;
        }
        int all = (1 << told.hosts) - 1;
        int sum = 0;
        int whole = 1;
        for (int h = 0; h < told.hosts; h++) {
            whole *= 10;
        }
        for (int spoilt = 0; spoilt <= all; spoilt++) {
            int weight = chance(spoilt, x);
            if (weight > 0) {
                run.go(policy, told.hour, spoilt, LAST_TICK);
                sum += run.howMany(DONE) == told.asks ? weight : 0;
            }
        }
        return ofFraction(sum, whole, upper);
    }

    public long seed(long v) {
        long was = seedNow;
        seedNow = v;
        return was;
    }

    public int drawn(int m) {
        if (m < 1 || m > 4) {
            return BAD;
        }
        int sum = 0;
        for (int i = 0; i < m; i++) {
            for (int a = 0; a < told.asks; a++) {
                drawnHours[a] = draw(LAST_HOUR + 1);
            }
            run.go(policy, drawnHours, BY_SPANS, LAST_TICK);
            sum += run.howMany(DONE);
        }
        return sum;
    }

    // ---- slots

    public int keep(int slot) {
        if (slot < 0 || slot >= SLOTS) {
            return UNKNOWN;
        }
        slots[slot].takeFrom(policy);
        kept[slot] = true;
        return told.hosts;
    }

    public int again(int slot) {
        if (slot < 0 || slot >= SLOTS) {
            return UNKNOWN;
        }
        if (!kept[slot]) {
            return LATE;
        }
        policy.takeFrom(slots[slot]);
        doings.count = 0;
        return told.hosts;
    }

    // ---- helpers of the calls

    private void tryPolicy(int tries, int hedge, int breaker) {
        trial.takeFrom(policy);
        trial.settings[TRIES] = tries;
        trial.settings[HEDGE] = hedge;
        trial.settings[BREAKER] = breaker;
        run.go(trial, told.hour, BY_SPANS, LAST_TICK);
    }

    /** Whether a told doing can be, or is so, by the trial policy; what it tells to do is done to that. */
    private boolean holds(int doing) {
        int kind = doing / 1000;
        int middle = doing / 10 % 100;
        int last = doing % 10;
        if (kind >= 1 && kind <= SETTINGS) {
            if (middle != 0 || !Policy.fits(kind - 1, last)) {
                return false;
            }
            trial.settings[kind - 1] = last;
            return true;
        }
        if (kind == 6 || kind == 7) {
            run.go(trial, told.hour, BY_SPANS, LAST_TICK);
            return kind == 6 ? endsBy(middle, last) : run.howMany(DONE) == doing % 1000;
        }
        return kind == 8 && putsOut(middle, last);
    }

    private boolean endsBy(int ask, int how) {
        return told.hasAsk(ask) && how >= DONE && how <= EXPIRED && run.state[ask] == how;
    }

    private boolean putsOut(int middle, int last) {
        int host = middle / 10;
        if (middle % 10 != 0 || last > 1 || !told.hasHost(host)) {
            return false;
        }
        int bit = 1 << host;
        trial.out = last == 1 ? trial.out | bit : trial.out & ~bit;
        return true;
    }

    /** In how many orders just these hosts have come when the host has come, less those ahead of its coming. */
    private static int orders(int come, int host, int count) {
        boolean with = ((come >> host) & 1) == 1;
        int ahead = Integer.bitCount(come) - (with ? 1 : 0);
        int behind = count - 1 - ahead;
        if (ahead < 0 || ahead > MAX_HOSTS || behind < 0 || behind > MAX_HOSTS) {
            return 0;
        }
        int ways = FACTORIAL[ahead] * FACTORIAL[behind];
        return with ? ways : -ways;
    }

    /** How likely just these hosts are spoilt, in parts of ten to the count of hosts. */
    private int chance(int spoilt, int x) {
        int weight = 1;
        for (int h = 0; h < told.hosts; h++) {
            weight *= ((spoilt >> h) & 1) == 1 ? x : 10 - x;
        }
        return weight;
    }

    private int draw(int by) {
        seedNow = seedNow * 6364136223846793005L + 1442695040888963407L;
        return by > 0 ? (int) ((seedNow >>> 33) % by) : 0;
    }

    private static int ofFraction(int top, int bottom, boolean upper) {
        int divisor = Math.abs(top);
        int rest = bottom;
        for (int i = 0; i < 64 && rest != 0; i++) {
            int next = divisor % rest;
            divisor = rest;
            rest = next;
        }
        if (divisor == 0) {
            return 0;
        }
        return upper ? top / divisor : bottom / divisor;
    }

    /** The 32 bits of a float that is 0 or more; the library's own function for it is not at hand. */
    private static int bitsOf(float value) {
        if (value <= 0f) {
            return 0;
        }
        double part = value;
        int power = 0;
        for (int i = 0; i < 128 && part >= 2.0; i++) {
            part = part / 2.0;
            power++;
        }
        for (int i = 0; i < 126 && part < 1.0; i++) {
            part = part * 2.0;
            power--;
        }
        return ((power + 127) << 23) + (int) (part * 8388608.0) - 8388608;
    }

    /** What a text tells: hosts, spans, asks. */
    private static final class Told {
        int hosts = 0, spans = 0, asks = 0;
        final int[] workers = new int[MAX_HOSTS];
        final int[] ticks = new int[MAX_HOSTS];
        final int[] room = new int[MAX_HOSTS];
        final int[] spanHost = new int[MAX_SPANS];
        final int[] spanFrom = new int[MAX_SPANS];
        final int[] spanTo = new int[MAX_SPANS];
        final int[] hour = new int[MAX_ASKS];
        final int[] rank = new int[MAX_ASKS];
        final int[] limit = new int[MAX_ASKS];

        void clear() {
            hosts = 0;
            spans = 0;
            asks = 0;
        }

        boolean hasHost(int h) {
            return h >= 0 && h < hosts;
        }

        boolean hasAsk(int a) {
            return a >= 0 && a < asks;
        }

        int ofHost(int h, int what) {
            return what == 0 ? workers[h] : what == 1 ? ticks[h] : room[h];
        }

        int ofAsk(int a, int what) {
            return what == 0 ? hour[a] : what == 1 ? rank[a] : limit[a];
        }

        boolean inSpan(int h, int t) {
            for (int i = 0; i < spans; i++) {
                if (spanHost[i] == h && spanFrom[i] <= t && t <= spanTo[i]) {
                    return true;
                }
            }
            return false;
        }
    }

    /** Reads a text letter by letter; stops at its first fault. */
    private static final class Parser {
        private final int[] letters;
        private int length;
        private int place;
        private int fault;

        Parser(int[] letters) {
            this.letters = letters;
        }

        /** The first fault, or NONE: then all that the text tells stands in the day that is given. */
        int read(int count, Told into) {
            length = Math.min(count, letters.length);
            place = 0;
            fault = NONE;
            into.clear();
            for (int parts = 0; parts < MAX_LETTERS && fault == NONE && place < length; parts++) {
                readPart(into);
            }
            return fault;
        }

        private void readPart(Told into) {
            int kind = letters[place];
            if (kind == 'H' && into.hosts < MAX_HOSTS) {
                place++;
                readHost(into);
            } else if (kind == 'X' && into.hosts > 0 && into.spans < MAX_SPANS) {
                place++;
                readSpan(into);
            } else if (kind == 'A' && into.asks < MAX_ASKS) {
                place++;
                readAsk(into);
            } else {
                fault = place;
            }
        }

        private void readHost(Told into) {
            int h = into.hosts;
            into.workers[h] = figure(1, MAX_WORKERS);
            into.ticks[h] = figure(1, 9);
            into.room[h] = figure(0, 5);
            into.hosts++;
        }

        private void readSpan(Told into) {
            int i = into.spans;
            into.spanHost[i] = figure(0, into.hosts - 1);
            int from = twoFigures(0, LAST_TICK);
            into.spanFrom[i] = from;
            into.spanTo[i] = twoFigures(from, LAST_TICK);
            into.spans++;
        }

        private void readAsk(Told into) {
            int a = into.asks;
            into.hour[a] = twoFigures(0, LAST_HOUR);
            into.rank[a] = figure(0, 3);
            into.limit[a] = twoFigures(1, 30);
            into.asks++;
        }

        /** Behind the first fault nothing more is read, so the fault stays the first one. */
        private int figure(int low, int high) {
            if (fault != NONE) {
                return low;
            }
            int value = place < length ? letters[place] - '0' : -1;
            if (value < low || value > high) {
                fault = place;
                return low;
            }
            place++;
            return value;
        }

        private int twoFigures(int low, int high) {
            int tens = figure(low / 10, high / 10);
            int least = tens == low / 10 ? low % 10 : 0;
            int most = tens == high / 10 ? high % 10 : 9;
            return tens * 10 + figure(least, most);
        }
    }

    /** The policy and the hosts that are out. */
    private static final class Policy {
        final int[] settings = new int[SETTINGS];
        int out;

        Policy() {
            reset();
        }

        void reset() {
            System.arraycopy(AT_FIRST, 0, settings, 0, SETTINGS);
            out = 0;
        }

        void takeFrom(Policy other) {
            System.arraycopy(other.settings, 0, settings, 0, SETTINGS);
            out = other.out;
        }

        boolean isOut(int h) {
            return ((out >> h) & 1) == 1;
        }

        static boolean fits(int what, int v) {
            return what >= 0 && what < SETTINGS && v >= LEAST[what] && v <= MOST[what];
        }
    }

    /** The last doings, each with what stood ahead of it. */
    private static final class Doings {
        static final int TURNED = SETTINGS;
        int count = 0;
        private final int[] what = new int[MAX_DOINGS];
        private final int[] was = new int[MAX_DOINGS];

        void add(int kind, int stood) {
            if (count >= MAX_DOINGS) {
                System.arraycopy(what, 1, what, 0, MAX_DOINGS - 1);
                System.arraycopy(was, 1, was, 0, MAX_DOINGS - 1);
                count = MAX_DOINGS - 1;
            }
            what[count] = kind;
            was[count] = stood;
            count++;
        }

        void takeBack(Policy policy) {
            if (count <= 0) {
                return;
            }
            count--;
            int kind = what[count];
            if (kind == TURNED) {
                policy.out = was[count];
            } else {
                policy.settings[kind] = was[count];
            }
        }
    }

    /** What was seen of asks on days when one host was spoilt. */
    private static final class Seen {
        int count = 0;
        private final int[] asks = new int[MAX_SEEN];
        private final int[] was = new int[MAX_SEEN];

        void add(int ask, int done) {
            if (count < MAX_SEEN) {
                asks[count] = ask;
                was[count] = done;
                count++;
            }
        }

        /** An ask that is told no more has not come in the run, so it counts as not done. */
        boolean isSo(DayRun run) {
            for (int i = 0; i < count; i++) {
                int done = run.state[asks[i]] == DONE ? 1 : 0;
                if (done != was[i]) {
                    return false;
                }
            }
            return true;
        }
    }

    /** Lets copies come to a host or not, by how its works ended. */
    private static final class Breaker {
        private static final int NEVER = -1, TICKS_OPEN = 6;
        int openings;
        float rate;
        private int openedAt;
        private int badInRow;
        private int lastEight;
        private int noted;

        void start() {
            openings = 0;
            openedAt = NEVER;
            forget();
        }

        private void forget() {
            rate = 0f;
            badInRow = 0;
            lastEight = 0;
            noted = 0;
        }

        int stateAt(int t) {
            if (openedAt == NEVER) {
                return SHUT;
            }
            return t - openedAt < TICKS_OPEN ? OPENED : HALF;
        }

        /** While it is half open, one copy at a time is let come to try the host. */
        boolean lets(int t, int copies) {
            return openedAt == NEVER || (t - openedAt >= TICKS_OPEN && copies == 0);
        }

        void note(boolean bad, int t, int kind) {
            int state = stateAt(t);
            if (state == OPENED) {
                return;
            }
            if (state == HALF ? bad : isTooBad(bad, kind)) {
                openedAt = t;
                openings++;
                forget();
            } else if (state == HALF) {
                openedAt = NEVER;
                forget();
            }
        }

        private boolean isTooBad(boolean bad, int kind) {
            switch (kind) {
                case 1:
                    badInRow = bad ? badInRow + 1 : 0;
                    return badInRow >= 3;
                case 2:
                    lastEight = ((lastEight << 1) | (bad ? 1 : 0)) & 255;
                    noted = Math.min(noted + 1, 8);
                    return noted >= 4 && 2 * Integer.bitCount(lastEight) >= noted;
                case 3:
                    rate = rate + 0.25f * ((bad ? 1f : 0f) - rate);
                    return rate > 0.5f;
                default:
                    return false;
            }
        }
    }

    /** A host in a run: its row, its works, its breaker, and what is counted of it. */
    private static final class HostRun {
        final Breaker breaker = new Breaker();
        final int[] row = new int[MAX_ASKS];
        final int[] workAsk = new int[MAX_WORKERS];
        final int[] workEnd = new int[MAX_WORKERS];
        int waiting, works;
        int held;
        int ended, bad, wasted, shed;

        void start() {
            breaker.start();
            waiting = 0;
            works = 0;
            held = 0;
            ended = 0;
            bad = 0;
            wasted = 0;
            shed = 0;
        }

        /** A host has one copy of an ask at most, waiting or worked at: a bit for each ask is enough. */
        boolean holdsCopy(int a) {
            return ((held >> a) & 1) == 1;
        }

        int copies() {
            return waiting + works;
        }

        void queue(int a) {
            if (waiting < MAX_ASKS) {
                row[waiting] = a;
                waiting++;
                held |= 1 << a;
            }
        }

        void dropAt(int place) {
            if (place >= 0 && place < waiting) {
                held &= ~(1 << row[place]);
                for (int i = place; i + 1 < waiting; i++) {
                    row[i] = row[i + 1];
                }
                waiting--;
            }
        }

        int placeOf(int a) {
            for (int i = 0; i < waiting; i++) {
                if (row[i] == a) {
                    return i;
                }
            }
            return NONE;
        }

        void beginFirst(int end) {
            if (waiting > 0 && works < MAX_WORKERS) {
                int a = row[0];
                dropAt(0);
                workAsk[works] = a;
                workEnd[works] = end;
                works++;
                held |= 1 << a;
            }
        }

        /** All works of a host take as long, so the one that was begun first ends first. */
        boolean endsFirstAt(int t) {
            return works > 0 && workEnd[0] == t;
        }

        int endFirst() {
            int a = workAsk[0];
            for (int i = 0; i + 1 < works; i++) {
                workAsk[i] = workAsk[i + 1];
                workEnd[i] = workEnd[i + 1];
            }
            works--;
            held &= ~(1 << a);
            return a;
        }

        int counted(int what) {
            switch (what) {
                case 3: return ended;
                case 4: return bad;
                case 5: return wasted;
                case 6: return breaker.openings;
                default: return shed;
            }
        }

        int standing(int what, int t) {
            switch (what) {
                case 0: return waiting;
                case 1: return works;
                case 2: return breaker.stateAt(t + 1);
                case 3: return waiting > 0 ? row[0] : NONE;
                default: return bitsOf(breaker.rate);
            }
        }
    }

    /** A day, run tick by tick; its rows are used again by each run. */
    private static final class DayRun {
        final HostRun[] hosts = new HostRun[MAX_HOSTS];
        final int[] state = new int[MAX_ASKS];
        private final Told told;
        private final int[] endTick = new int[MAX_ASKS];
        private final int[] endHost = new int[MAX_ASKS];
        private final int[] tries = new int[MAX_ASKS];
        private final int[] hedged = new int[MAX_ASKS];
        private Policy policy;
        private int[] hours;
        private int spoilt;
        private int budget;
        private float learnt;
        private int sent, sentAgain, sentHedges, lost;
        private int askEnds, busy;

        DayRun(Told told) {
            this.told = told;
            policy = new Policy();
            hours = told.hour;
            for (int h = 0; h < MAX_HOSTS; h++) {
                hosts[h] = new HostRun();
            }
        }

        /** Runs to the last tick that is asked for; spoilt is a mask of hosts that are so all day, or BY_SPANS. */
        void go(Policy byPolicy, int[] byHours, int spoiltHosts, int last) {
            policy = byPolicy;
            hours = byHours;
            spoilt = spoiltHosts;
            start();
            for (int t = 0; t <= last && t <= LAST_TICK && !isOver(); t++) {
                endWorks(t);
                endLate(t);
                letCome(t);
                sendAgain(t);
                sendHedges(t);
                beginWorks(t);
            }
        }

        private void start() {
            for (int h = 0; h < MAX_HOSTS; h++) {
                hosts[h].start();
            }
            Arrays.fill(state, TO_COME);
            Arrays.fill(endTick, NONE);
            Arrays.fill(endHost, NONE);
            Arrays.fill(tries, 0);
            Arrays.fill(hedged, 0);
            budget = 8;
            learnt = 4f;
            sent = 0;
            sentAgain = 0;
            sentHedges = 0;
            lost = 0;
            askEnds = 0;
            busy = 0;
        }

        /** When all asks have ended and nothing is worked at, no later tick changes anything. */
        private boolean isOver() {
            return askEnds >= told.asks && busy == 0;
        }

        private void endWorks(int t) {
            for (int h = 0; h < told.hosts; h++) {
                for (int i = 0; i < MAX_WORKERS && hosts[h].endsFirstAt(t); i++) {
                    endWork(h, t);
                }
            }
        }

        private void endWork(int h, int t) {
            HostRun host = hosts[h];
            int a = host.endFirst();
            boolean bad = isSpoilt(h, t);
            busy--;
            host.ended++;
            if (bad) {
                host.bad++;
            }
            if (state[a] != OPEN) {
                host.wasted++;
            } else if (!bad) {
                endAsk(a, DONE, t);
                endHost[a] = h;
                learnt = learnt + 0.25f * ((float) (t - hours[a]) - learnt);
            }
            host.breaker.note(bad, t, policy.settings[BREAKER]);
        }

        private boolean isSpoilt(int h, int t) {
            return spoilt == BY_SPANS ? told.inSpan(h, t) : ((spoilt >> h) & 1) == 1;
        }

        private void endAsk(int a, int how, int t) {
            state[a] = how;
            endTick[a] = t;
            askEnds++;
            for (int h = 0; h < told.hosts; h++) {
                hosts[h].dropAt(hosts[h].placeOf(a));
            }
        }

        private void endLate(int t) {
            for (int a = 0; a < told.asks; a++) {
                if (state[a] == OPEN && t >= hours[a] + told.limit[a]) {
                    endAsk(a, EXPIRED, t);
                }
            }
        }

        private void letCome(int t) {
            for (int a = 0; a < told.asks; a++) {
                if (hours[a] == t) {
                    state[a] = OPEN;
                    budget = Math.min(budget + policy.settings[GAIN], MOST_BUDGET);
                    tries[a] = 1;
                    send(a, t);
                }
            }
        }

        private void sendAgain(int t) {
            for (int a = 0; a < told.asks; a++) {
                if (state[a] == OPEN && copies(a) == 0) {
                    if (tries[a] < policy.settings[TRIES] && budget >= TRY_COST) {
                        budget -= TRY_COST;
                        tries[a]++;
                        sentAgain++;
                        send(a, t);
                    } else {
                        endAsk(a, FAILED, t);
                    }
                }
            }
        }

        private void sendHedges(int t) {
            int hedge = policy.settings[HEDGE];
            if (hedge == 0) {
                return;
            }
            for (int a = 0; a < told.asks; a++) {
                if (budget >= TRY_COST && isToHedge(a, t, hedge)) {
                    budget -= TRY_COST;
                    hedged[a] = 1;
                    sentHedges++;
                    send(a, t);
                }
            }
        }

        private boolean isToHedge(int a, int t, int hedge) {
            return state[a] == OPEN && hedged[a] == 0 && copies(a) == 1
                && (float) (t - hours[a]) > (float) hedge * learnt;
        }

        private void beginWorks(int t) {
            for (int h = 0; h < told.hosts; h++) {
                HostRun host = hosts[h];
                for (int i = 0; i < MAX_WORKERS && host.works < told.workers[h] && host.waiting > 0; i++) {
                    host.beginFirst(t + told.ticks[h]);
                    busy++;
                }
            }
        }

        private int copies(int a) {
            int count = 0;
            for (int h = 0; h < told.hosts; h++) {
                count += hosts[h].holdsCopy(a) ? 1 : 0;
            }
            return count;
        }

        private void send(int a, int t) {
            sent++;
            int h = hostFor(a, t);
            if (h == NONE) {
                lost++;
                return;
            }
            HostRun host = hosts[h];
            host.queue(a);
            if (host.waiting > told.room[h] + told.workers[h] - host.works) {
                host.dropAt(placeToShed(host));
                host.shed++;
            }
        }

        private int hostFor(int a, int t) {
            int chosen = NONE;
            int fewest = 0;
            for (int h = 0; h < told.hosts; h++) {
                HostRun host = hosts[h];
                int count = host.copies();
                boolean mayCome = !policy.isOut(h) && !host.holdsCopy(a) && host.breaker.lets(t, count);
                if (mayCome && (chosen == NONE || count < fewest)) {
                    chosen = h;
                    fewest = count;
                }
            }
            return chosen;
        }

        private int placeToShed(HostRun host) {
            int chosen = host.waiting - 1;
            for (int i = chosen - 1; i >= 0; i--) {
                if (worth(host.row[i]) < worth(host.row[chosen])) {
                    chosen = i;
                }
            }
            return chosen;
        }

        /** By SHED 0 all are worth alike, so that the one that came last goes. */
        private int worth(int a) {
            switch (policy.settings[SHED]) {
                case 1: return told.rank[a];
                case 2: return hours[a] + told.limit[a];
                default: return 0;
            }
        }

        int howMany(int how) {
            int count = 0;
            for (int a = 0; a < told.asks; a++) {
                count += state[a] == how ? 1 : 0;
            }
            return count;
        }

        int wasted() {
            int count = 0;
            for (int h = 0; h < told.hosts; h++) {
                count += hosts[h].wasted;
            }
            return count;
        }

        private int shedByAll() {
            int count = 0;
            for (int h = 0; h < told.hosts; h++) {
                count += hosts[h].shed;
            }
            return count;
        }

        int ofAsk(int a, int what) {
            switch (what) {
                case 3: return state[a];
                case 4: return endTick[a];
                case 5: return endHost[a];
                case 6: return tries[a];
                default: return hedged[a];
            }
        }

        int ofAll(int what) {
            switch (what) {
                case 0: return howMany(DONE);
                case 1: return howMany(FAILED);
                case 2: return howMany(EXPIRED);
                case 3: return sent;
                case 4: return sentAgain;
                case 5: return sentHedges;
                case 6: return lost;
                case 7: return shedByAll();
                case 8: return wasted();
                case 9: return budget;
                default: return bitsOf(learnt);
            }
        }
    }
}
