import java.math.BigInteger;
import java.util.ArrayDeque;
import java.util.ArrayList;
import java.util.Deque;
import java.util.HashSet;
import java.util.List;
import java.util.Random;
import java.util.Set;
import java.util.TreeMap;

/** Runs of calls by a fixed seed, each answer held against a second, quite other model of the document. */
public final class OracleTest {
    private static final int UNKNOWN = -1, BAD = -2, LATE = -3, FULL = -4, NONE = -9;

    /** A copy of an ask: it waits while ends is -1. */
    private static final class Copy {
        int ask, host, ends = -1;
    }

    private static final class Spec {
        List<int[]> hosts = new ArrayList<>(), spans = new ArrayList<>(), asks = new ArrayList<>();
    }

    /** One day; all copies are in one list, in the order in which they were sent, works in one as they were begun. */
    private static final class Day {
        final Spec spec;
        final int[] policy;
        final int out;
        final int allDay;
        final List<Copy> waiting = new ArrayList<>(), working = new ArrayList<>();
        final String[] breaker;
        final int[] opensTo;
        final List<List<Boolean>> noted = new ArrayList<>();
        final float[] rate;
        final int[] state, endTick, endHost, tries;
        final boolean[] hedged;
        final int[][] counts;
        int budget = 8, sent = 0, again = 0, hedges = 0, lost = 0;
        float learnt = 4f;

        Day(Spec spec, int[] policy, int out, int allDay) {
            this.spec = spec;
            this.policy = policy;
            this.out = out;
            this.allDay = allDay;
            int h = spec.hosts.size(), a = spec.asks.size();
            breaker = new String[h];
            opensTo = new int[h];
            rate = new float[h];
            counts = new int[h][5];
            for (int i = 0; i < h; i++) {
                breaker[i] = "shut";
                noted.add(new ArrayList<>());
            }
            state = new int[a];
            endTick = new int[a];
            endHost = new int[a];
            tries = new int[a];
            hedged = new boolean[a];
            java.util.Arrays.fill(endHost, NONE);
        }

        Day to(int last) {
            for (int t = 0; t <= last; t++) {
                tick(t);
            }
            return this;
        }

        void tick(int t) {
            for (int h = 0; h < breaker.length; h++) {
                if (breaker[h].equals("open") && t > opensTo[h]) {
                    breaker[h] = "half";
                }
            }
            for (int h = 0; h < breaker.length; h++) {
                for (Copy c : new ArrayList<>(working)) {
                    if (c.host == h && c.ends == t) {
                        working.remove(c);
                        finish(c, t);
                    }
                }
            }
            for (int a = 0; a < state.length; a++) {
                int[] ask = spec.asks.get(a);
                if (state[a] == 1 && t >= ask[0] + ask[2]) {
                    end(a, 4, t);
                }
            }
            for (int a = 0; a < state.length; a++) {
                if (spec.asks.get(a)[0] == t) {
                    state[a] = 1;
                    budget += policy[1];
                    if (budget > 80) {
                        budget = 80;
                    }
                    tries[a]++;
                    send(a);
                }
            }
            for (int a = 0; a < state.length; a++) {
                if (state[a] != 1 || copiesOfAsk(a) > 0) {
                    continue;
                }
                if (tries[a] >= policy[0] || budget < 8) {
                    end(a, 3, t);
                    continue;
                }
                budget -= 8;
                tries[a]++;
                again++;
                send(a);
            }
            for (int a = 0; policy[2] > 0 && a < state.length; a++) {
                float age = t - spec.asks.get(a)[0];
                float bound = policy[2] * learnt;
                if (state[a] == 1 && copiesOfAsk(a) == 1 && !hedged[a] && age > bound && budget >= 8) {
                    budget -= 8;
                    hedged[a] = true;
                    hedges++;
                    send(a);
                }
            }
            for (int h = 0; h < breaker.length; h++) {
                for (Copy c : new ArrayList<>(waiting)) {
                    if (c.host == h && worksOf(h) < spec.hosts.get(h)[0]) {
                        waiting.remove(c);
                        c.ends = t + spec.hosts.get(h)[1];
                        working.add(c);
                    }
                }
            }
        }

        boolean spoilt(int h, int t) {
            if (allDay >= 0) {
                return (allDay & 1 << h) != 0;
            }
            return spec.spans.stream().anyMatch(s -> s[0] == h && t >= s[1] && t <= s[2]);
        }

        void finish(Copy c, int t) {
            int[] count = counts[c.host];
            boolean bad = spoilt(c.host, t);
            count[0]++;
            count[1] += bad ? 1 : 0;
            if (state[c.ask] != 1) {
                count[2]++;
            } else if (!bad) {
                end(c.ask, 2, t);
                endHost[c.ask] = c.host;
                float d = t - spec.asks.get(c.ask)[0];
                float more = d - learnt;
                float quarter = more * 0.25f;
                learnt = learnt + quarter;
            }
            note(c.host, bad, t);
        }

        void note(int h, boolean bad, int t) {
            List<Boolean> all = noted.get(h);
            boolean opens;
            if (breaker[h].equals("open")) {
                return;
            } else if (breaker[h].equals("half")) {
                opens = bad;
                breaker[h] = "shut";
                all.clear();
                rate[h] = 0f;
            } else {
                all.add(bad);
                int n = all.size();
                if (policy[3] == 1) {
                    opens = n >= 3 && all.get(n - 1) && all.get(n - 2) && all.get(n - 3);
                } else if (policy[3] == 2) {
                    List<Boolean> last = all.subList(Math.max(0, n - 8), n);
                    long bads = last.stream().filter(b -> b).count();
                    opens = n >= 4 && bads * 2 >= last.size();
                } else if (policy[3] == 3) {
                    float more = (bad ? 1f : 0f) - rate[h];
                    float quarter = more * 0.25f;
                    rate[h] = rate[h] + quarter;
                    opens = rate[h] > 0.5f;
                } else {
                    opens = false;
                }
            }
            if (opens) {
                breaker[h] = "open";
                opensTo[h] = t + 5;
                counts[h][3]++;
                all.clear();
                rate[h] = 0f;
            }
        }

        void end(int a, int how, int t) {
            state[a] = how;
            endTick[a] = t;
            waiting.removeIf(c -> c.ask == a);
        }

        int copiesOfAsk(int a) {
            return (int) (waiting.stream().filter(c -> c.ask == a).count()
                + working.stream().filter(c -> c.ask == a).count());
        }

        int waitsOf(int h) {
            return (int) waiting.stream().filter(c -> c.host == h).count();
        }

        int worksOf(int h) {
            return (int) working.stream().filter(c -> c.host == h).count();
        }

        boolean has(int h, int a) {
            return waiting.stream().anyMatch(c -> c.host == h && c.ask == a)
                || working.stream().anyMatch(c -> c.host == h && c.ask == a);
        }

        void send(int a) {
            sent++;
            TreeMap<Integer, Integer> byCopies = new TreeMap<>();
            for (int h = breaker.length - 1; h >= 0; h--) {
                int copies = waitsOf(h) + worksOf(h);
                boolean lets = breaker[h].equals("shut") || (breaker[h].equals("half") && copies == 0);
                if ((out & 1 << h) == 0 && !has(h, a) && lets) {
                    byCopies.put(copies, h);
                }
            }
            if (byCopies.isEmpty()) {
                lost++;
                return;
            }
            int h = byCopies.firstEntry().getValue();
            Copy copy = new Copy();
            copy.ask = a;
            copy.host = h;
            waiting.add(copy);
            int free = spec.hosts.get(h)[0] - worksOf(h);
            if (waitsOf(h) > spec.hosts.get(h)[2] + free) {
                shed(h);
            }
        }

        void shed(int h) {
            Copy chosen = null;
            for (Copy c : waiting) {
                if (c.host == h && (chosen == null || worth(c) <= worth(chosen))) {
                    chosen = c;
                }
            }
            waiting.remove(chosen);
            counts[h][4]++;
        }

        int worth(Copy c) {
            int[] ask = spec.asks.get(c.ask);
            return policy[4] == 0 ? 0 : policy[4] == 1 ? ask[1] : ask[0] + ask[2];
        }

        int ended(int how) {
            int n = 0;
            for (int s : state) {
                n += s == how ? 1 : 0;
            }
            return n;
        }

        int sum(int what) {
            int n = 0;
            for (int[] c : counts) {
                n += c[what];
            }
            return n;
        }
    }

    /** The whole object, with no thought of speed. */
    private static final class Model {
        String text = "";
        Spec spec = new Spec();
        int[] policy = {2, 2, 0, 1, 0};
        int out = 0;
        Deque<int[]> doings = new ArrayDeque<>();
        List<int[]> seen = new ArrayList<>();
        int[][] slots = new int[2][];
        long seed = 0;

        static final Set<String> AHEAD = new HashSet<>(), WHOLE = new HashSet<>();

        static void tellParts() {
            for (int w = 1; w <= 3; w++) {
                for (int t = 1; t <= 9; t++) {
                    for (int r = 0; r <= 5; r++) {
                        tell("H" + w + t + r);
                    }
                }
            }
            for (int h = 0; h < 4; h++) {
                for (int a = 0; a <= 79; a++) {
                    for (int b = a; b <= 79; b++) {
                        tell(String.format("X%d%02d%02d", h, a, b));
                    }
                }
            }
            for (int h = 0; h <= 40; h++) {
                for (int k = 0; k <= 3; k++) {
                    for (int l = 1; l <= 30; l++) {
                        tell(String.format("A%02d%d%02d", h, k, l));
                    }
                }
            }
        }

        static void tell(String part) {
            WHOLE.add(part);
            for (int i = 1; i < part.length(); i++) {
                AHEAD.add(part.substring(0, i));
            }
        }

        /** 0: a day; 1: it can become one; 2: it can't. */
        static int kindOf(String text, Spec into) {
            String rest = text;
            while (!rest.isEmpty()) {
                boolean whole = rest.length() >= (rest.charAt(0) == 'H' ? 4 : 6);
                String part = whole ? rest.substring(0, rest.charAt(0) == 'H' ? 4 : 6) : rest;
                if (!(whole ? WHOLE : AHEAD).contains(part) || !mayCome(part, into)) {
                    return 2;
                }
                if (!whole) {
                    return 1;
                }
                take(part, into);
                rest = rest.substring(part.length());
            }
            return 0;
        }

        static boolean mayCome(String part, Spec s) {
            switch (part.charAt(0)) {
                case 'H': return s.hosts.size() < 4;
                case 'A': return s.asks.size() < 12;
                default:
                    return !s.hosts.isEmpty() && s.spans.size() < 4
                        && (part.length() < 2 || part.charAt(1) - '0' < s.hosts.size());
            }
        }

        static void take(String p, Spec s) {
            if (p.charAt(0) == 'H') {
                s.hosts.add(new int[] {p.charAt(1) - '0', p.charAt(2) - '0', p.charAt(3) - '0'});
            } else if (p.charAt(0) == 'X') {
                s.spans.add(new int[] {p.charAt(1) - '0', Integer.parseInt(p.substring(2, 4)),
                    Integer.parseInt(p.substring(4))});
            } else {
                s.asks.add(new int[] {Integer.parseInt(p.substring(1, 3)), p.charAt(3) - '0',
                    Integer.parseInt(p.substring(4))});
            }
        }

        int fault() {
            for (int n = 1; n <= text.length(); n++) {
                if (kindOf(text.substring(0, n), new Spec()) == 2) {
                    return n - 1;
                }
            }
            return kindOf(text, new Spec()) == 0 ? NONE : text.length();
        }

        Day run(int[] by, int outs, int allDay) {
            return new Day(spec, by, outs, allDay).to(79);
        }

        Day run() {
            return run(policy, out, -1);
        }

        int day() {
            if (fault() != NONE) {
                return LATE;
            }
            spec = new Spec();
            kindOf(text, spec);
            policy = new int[] {2, 2, 0, 1, 0};
            out = 0;
            doings.clear();
            slots = new int[2][];
            return spec.asks.size();
        }

        int about(int what) {
            int[] all = {spec.hosts.size(), spec.asks.size(), spec.spans.size(), policy[0], policy[1], policy[2],
                policy[3], policy[4], out, doings.size(), seen.size(), text.length()};
            return what < 0 || what >= all.length ? BAD : all[what];
        }

        static boolean may(int what, int v) {
            String[] all = {"1234", "012345678", "012", "0123", "012"};
            return what >= 0 && what < 5 && v >= 0 && v <= 9 && all[what].indexOf('0' + v) >= 0;
        }

        void remember() {
            doings.addLast(new int[] {policy[0], policy[1], policy[2], policy[3], policy[4], out});
            if (doings.size() > 14) {
                doings.removeFirst();
            }
        }

        int set(int what, int v) {
            if (!may(what, v)) {
                return BAD;
            }
            remember();
            int was = policy[what];
            policy[what] = v;
            return was;
        }

        int turn(int h) {
            if (h < 0 || h >= spec.hosts.size()) {
                return UNKNOWN;
            }
            remember();
            out ^= 1 << h;
            return (out & 1 << h) != 0 ? 1 : 0;
        }

        void stand(int[] all) {
            policy = java.util.Arrays.copyOf(all, 5);
            out = all[5];
        }

        int undo() {
            if (doings.isEmpty()) {
                return LATE;
            }
            stand(doings.removeLast());
            return doings.size();
        }

        int ask(int a, int what) {
            if (a < 0 || a >= spec.asks.size()) {
                return UNKNOWN;
            }
            if (what < 0 || what > 7) {
                return BAD;
            }
            Day d = run();
            int[] told = spec.asks.get(a);
            int[] all = {told[0], told[1], told[2], d.state[a], d.endTick[a], d.endHost[a], d.tries[a],
                d.hedged[a] ? 1 : 0};
            return all[what];
        }

        int host(int h, int what) {
            if (h < 0 || h >= spec.hosts.size()) {
                return UNKNOWN;
            }
            if (what < 0 || what > 7) {
                return BAD;
            }
            return what < 3 ? spec.hosts.get(h)[what] : run().counts[h][what - 3];
        }

        int total(int what) {
            if (what < 0 || what > 10) {
                return BAD;
            }
            Day d = run();
            int[] all = {d.ended(2), d.ended(3), d.ended(4), d.sent, d.again, d.hedges, d.lost, d.sum(4), d.sum(2),
                d.budget, Float.floatToIntBits(d.learnt)};
            return all[what];
        }

        int stand(int t, int h, int what) {
            if (t < 0 || t > 79) {
                return BAD;
            }
            if (h < 0 || h >= spec.hosts.size()) {
                return UNKNOWN;
            }
            if (what < 0 || what > 4) {
                return BAD;
            }
            Day d = new Day(spec, policy, out, -1).to(t);
            int first = d.waiting.stream().filter(c -> c.host == h).map(c -> c.ask).findFirst().orElse(NONE);
            int breaker = d.breaker[h].equals("shut") ? 0 : d.breaker[h].equals("open") && t + 1 <= d.opensTo[h] ? 1 : 2;
            int[] all = {d.waitsOf(h), d.worksOf(h), breaker, first, Float.floatToIntBits(d.rate[h])};
            return all[what];
        }

        int best(int what) {
            if (what < 0 || what > 2) {
                return BAD;
            }
            List<int[]> all = new ArrayList<>();
            for (int f = 100; f < 1000; f++) {
                if (may(0, f / 100) && may(2, f / 10 % 10) && may(3, f % 10)) {
                    Day d = run(new int[] {f / 100, policy[1], f / 10 % 10, f % 10, policy[4]}, out, -1);
                    all.add(new int[] {d.ended(2), d.sum(2), f});
                }
            }
            all.sort((p, q) -> p[0] != q[0] ? q[0] - p[0] : p[1] != q[1] ? p[1] - q[1] : p[2] - q[2]);
            return all.get(0)[what];
        }

        int judge(int n, long row) {
            if (n < 1 || n > 4 || row < 0 || String.valueOf(row).length() > 4 * n) {
                return BAD;
            }
            String figures = String.format("%0" + 4 * n + "d", row);
            int[] by = policy.clone();
            int outs = out;
            for (int i = 0; i < n; i++) {
                String f = figures.substring(4 * i, 4 * i + 4);
                int last = f.charAt(3) - '0';
                boolean so = false;
                if (f.matches("[1-5]00.") && may(f.charAt(0) - '1', last)) {
                    by[f.charAt(0) - '1'] = last;
                    so = true;
                } else if (f.matches("6..[234]")) {
                    int a = Integer.parseInt(f.substring(1, 3));
                    so = a < spec.asks.size() && run(by, outs, -1).state[a] == last;
                } else if (f.matches("70..")) {
                    so = run(by, outs, -1).ended(2) == Integer.parseInt(f.substring(2));
                } else if (f.matches("8.0[01]") && f.charAt(1) - '0' < spec.hosts.size()) {
                    int bit = 1 << f.charAt(1) - '0';
                    outs = last == 1 ? outs | bit : outs & ~bit;
                    so = true;
                }
                if (!so) {
                    return i;
                }
            }
            return NONE;
        }

        int see(int a, int was) {
            if (a < 0 || a >= spec.asks.size()) {
                return UNKNOWN;
            }
            if (was != 0 && was != 1) {
                return BAD;
            }
            if (seen.size() == 6) {
                return FULL;
            }
            seen.add(new int[] {a, was});
            return seen.size();
        }

        int which() {
            int bits = 0;
            for (int h = 0; h < spec.hosts.size(); h++) {
                Day d = run(policy, out, 1 << h);
                boolean so = true;
                for (int[] s : seen) {
                    boolean done = s[0] < spec.asks.size() && d.state[s[0]] == 2;
                    so &= done == (s[1] == 1);
                }
                bits |= so ? 1 << h : 0;
            }
            return bits;
        }

        static int fraction(BigInteger top, BigInteger bottom, boolean upper) {
            BigInteger g = top.gcd(bottom);
            return (upper ? top : bottom).divide(g).intValueExact();
        }

        /** All orders, one by one. */
        int share(int h, boolean upper) {
            if (h < 0 || h >= spec.hosts.size()) {
                return UNKNOWN;
            }
            if ((out & 1 << h) != 0) {
                return LATE;
            }
            List<Integer> left = new ArrayList<>();
            for (int i = 0; i < spec.hosts.size(); i++) {
                if ((out & 1 << i) == 0) {
                    left.add(i);
                }
            }
            long[] sum = new long[2];
            orders(left, (1 << spec.hosts.size()) - 1, h, sum, new Integer[16]);
            return fraction(BigInteger.valueOf(sum[0]), BigInteger.valueOf(sum[1]), upper);
        }

        int done(int outs, Integer[] known) {
            if (known[outs] == null) {
                known[outs] = run(policy, outs, -1).ended(2);
            }
            return known[outs];
        }

        void orders(List<Integer> left, int outs, int h, long[] sum, Integer[] known) {
            for (int next : left) {
                List<Integer> rest = new ArrayList<>(left);
                rest.remove((Integer) next);
                int then = outs & ~(1 << next);
                if (next == h) {
                    long ways = 1;
                    for (int i = 2; i <= rest.size(); i++) {
                        ways *= i;
                    }
                    sum[0] += ways * (done(then, known) - done(outs, known));
                    sum[1] += ways;
                } else {
                    orders(rest, then, h, sum, known);
                }
            }
        }

        int calm(int x, boolean upper) {
            if (x < 0 || x > 10) {
                return BAD;
            }
            int n = spec.hosts.size();
            BigInteger sum = BigInteger.ZERO;
            for (int mask = 0; mask < 1 << n; mask++) {
                int k = Integer.bitCount(mask);
                if (run(policy, out, mask).ended(2) == spec.asks.size()) {
                    sum = sum.add(BigInteger.valueOf(x).pow(k).multiply(BigInteger.valueOf(10 - x).pow(n - k)));
                }
            }
            return fraction(sum, BigInteger.TEN.pow(n), upper);
        }

        int drawn(int m) {
            if (m < 1 || m > 4) {
                return BAD;
            }
            BigInteger wrap = BigInteger.ONE.shiftLeft(64);
            int sum = 0;
            for (int i = 0; i < m; i++) {
                Spec s = new Spec();
                s.hosts = spec.hosts;
                s.spans = spec.spans;
                for (int[] a : spec.asks) {
                    BigInteger x = BigInteger.valueOf(seed).multiply(new BigInteger("6364136223846793005"))
                        .add(new BigInteger("1442695040888963407")).mod(wrap);
                    seed = x.longValue();
                    s.asks.add(new int[] {x.shiftRight(33).mod(BigInteger.valueOf(41)).intValue(), a[1], a[2]});
                }
                sum += new Day(s, policy, out, -1).to(79).ended(2);
            }
            return sum;
        }

        int keep(int slot) {
            if (slot != 0 && slot != 1) {
                return UNKNOWN;
            }
            slots[slot] = new int[] {policy[0], policy[1], policy[2], policy[3], policy[4], out};
            return spec.hosts.size();
        }

        int again(int slot) {
            if (slot != 0 && slot != 1) {
                return UNKNOWN;
            }
            if (slots[slot] == null) {
                return LATE;
            }
            stand(slots[slot]);
            doings.clear();
            return spec.hosts.size();
        }
    }

    private final Random random = new Random(20261117L);
    private SoftAsks real;
    private Model model;
    private int wrong = 0;
    private final StringBuilder story = new StringBuilder();

    private void due(String call, long got, long want) {
        if (got != want) {
            wrong++;
            if (wrong <= 5) {
                System.out.println("[" + model.text + "] " + story + call + " answered " + got + ", due is " + want);
            }
        }
    }

    private int some(int low, int high) {
        if (random.nextInt(40) == 0) {
            int[] odd = {low - 1, high + 1, Integer.MIN_VALUE, Integer.MAX_VALUE, -9, 1000};
            return odd[random.nextInt(odd.length)];
        }
        return low + random.nextInt(high - low + 1);
    }

    /** Days in which much goes on: few hosts, long works, asks close to one another. */
    private String text() {
        StringBuilder s = new StringBuilder();
        int hosts = random.nextInt(10) == 0 ? random.nextInt(2) : 1 + random.nextInt(4);
        for (int i = 0; i < hosts; i++) {
            s.append('H').append(1 + random.nextInt(3)).append(1 + random.nextInt(random.nextBoolean() ? 3 : 9))
                .append(random.nextInt(random.nextBoolean() ? 2 : 6));
        }
        int spans = hosts == 0 ? 0 : random.nextInt(5);
        for (int i = 0; i < spans; i++) {
            int from = random.nextInt(random.nextBoolean() ? 12 : 80);
            int to = Math.min(79, from + random.nextInt(random.nextBoolean() ? 10 : 80));
            s.append(String.format("X%d%02d%02d", random.nextInt(hosts), from, to));
        }
        int asks = random.nextInt(8) == 0 ? random.nextInt(6) : 6 + random.nextInt(7);
        int width = random.nextBoolean() ? 8 : random.nextBoolean() ? 20 : 41;
        for (int i = 0; i < asks; i++) {
            s.append(String.format("A%02d%d%02d", random.nextInt(width), random.nextInt(4),
                1 + random.nextInt(random.nextInt(3) == 0 ? 6 : 30)));
        }
        if (random.nextInt(6) == 0 && s.length() > 0) {
            s.setCharAt(random.nextInt(s.length()), "0123456789HXA/:h".charAt(random.nextInt(16)));
        }
        if (random.nextInt(12) == 0) {
            s.setLength(random.nextInt(s.length() + 1));
        }
        return s.toString();
    }

    private void writeText(String text) {
        due("wipe", real.wipe(), model.text.length());
        model.text = "";
        for (char c : text.toCharArray()) {
            model.text += c;
            due("write", real.write(c), model.text.length());
        }
        due("fault", real.fault(), model.fault());
        due("day", real.day(), model.day());
    }

    private long row(int n) {
        StringBuilder s = new StringBuilder();
        for (int i = 0; i < n; i++) {
            int kind = random.nextInt(12) == 0 ? random.nextInt(10) : 1 + random.nextInt(8);
            if (kind <= 5) {
                s.append(kind).append("00").append(random.nextInt(random.nextInt(5) == 0 ? 10 : 3));
            } else if (kind == 6) {
                int a = random.nextInt(13);
                s.append(String.format("6%02d%d", a, 2 + random.nextInt(3)));
            } else if (kind == 7) {
                s.append(String.format("70%02d", random.nextInt(3) == 0 ? random.nextInt(13) : model.total(0)));
            } else {
                s.append(kind).append(random.nextInt(4)).append(random.nextInt(20) == 0 ? 1 : 0)
                    .append(random.nextInt(2));
            }
        }
        return Long.parseLong(s.toString());
    }

    private void call() {
        int a = some(0, 11), h = some(0, 3), t = some(0, random.nextBoolean() ? 20 : 79), v = 0, w = 0;
        switch (random.nextInt(30)) {
            case 0: case 1: case 2:
                w = some(0, 4);
                v = some(0, w == 1 ? 8 : 3);
                story.append("set(" + w + ", " + v + ") ");
                due("set", real.set(w, v), model.set(w, v));
                break;
            case 3: case 4:
                story.append("turn(" + h + ") ");
                due("turn", real.turn(h), model.turn(h));
                break;
            case 5:
                story.append("undo() ");
                due("undo", real.undo(), model.undo());
                break;
            case 6: case 7: case 8:
                w = some(0, 7);
                due("ask(" + a + ", " + w + ")", real.ask(a, w), model.ask(a, w));
                break;
            case 9: case 10: case 11:
                w = some(0, 7);
                due("host(" + h + ", " + w + ")", real.host(h, w), model.host(h, w));
                break;
            case 12: case 13: case 14: case 15:
                w = some(0, 10);
                due("total(" + w + ")", real.total(w), model.total(w));
                break;
            case 16: case 17: case 18: case 19:
                w = some(0, 4);
                due("stand(" + t + ", " + h + ", " + w + ")", real.stand(t, h, w), model.stand(t, h, w));
                break;
            case 20:
                w = some(0, 2);
                due("best(" + w + ")", real.best(w), model.best(w));
                break;
            case 21: case 22:
                v = 1 + random.nextInt(4);
                long row = random.nextInt(30) == 0 ? random.nextLong() : row(v);
                v = random.nextInt(30) == 0 ? some(0, 5) : v;
                due("judge(" + v + ", " + row + ")", real.judge(v, row), model.judge(v, row));
                break;
            case 23:
                v = some(0, 1);
                story.append("see(" + a + ", " + v + ") ");
                due("see", real.see(a, v), model.see(a, v));
                break;
            case 24:
                if (random.nextInt(4) == 0) {
                    story.append("unsee() ");
                    due("unsee", real.unsee(), model.seen.size());
                    model.seen.clear();
                }
                due("which()", real.which(), model.which());
                break;
            case 25:
                due("share(" + h + ", true)", real.share(h, true), model.share(h, true));
                due("share(" + h + ", false)", real.share(h, false), model.share(h, false));
                break;
            case 26:
                v = some(0, 10);
                due("calm(" + v + ", true)", real.calm(v, true), model.calm(v, true));
                due("calm(" + v + ", false)", real.calm(v, false), model.calm(v, false));
                break;
            case 27:
                long s = random.nextLong();
                if (random.nextBoolean()) {
                    story.append("seed(" + s + ") ");
                    due("seed", real.seed(s), model.seed);
                    model.seed = s;
                }
                v = some(1, 4);
                story.append("drawn(" + v + ") ");
                due("drawn", real.drawn(v), model.drawn(v));
                break;
            case 28:
                w = some(0, 1);
                if (random.nextBoolean()) {
                    story.append("keep(" + w + ") ");
                    due("keep", real.keep(w), model.keep(w));
                } else {
                    story.append("again(" + w + ") ");
                    due("again", real.again(w), model.again(w));
                }
                break;
            default:
                w = some(0, 11);
                due("about(" + w + ")", real.about(w), model.about(w));
                break;
        }
    }

    /** Days by which the best policy is a rare one, as chance seldom finds them. */
    private static final String[] RARE = {
        "H252X00813X02327X03940A22114A08322A12006A13118A28201A23008A12312A13112A03307A10326A12018",
        "H390H311X11315X12331X03944A19302A25313A23305A21106A15029A29227",
        "H312H282X02435X00710X11919X13337A06127A19211A15007A17206A05021A28327A09102A19109A27011",
        "H323H331X12129X00310X02532A28104A16126A14014A03318A20029A24022",
        "H282H110H162X22334X10311X12731X23739A26001A08029A23108A04011A14301A16111A24123A14028A24316",
        "H112H152H260X02738X01414A06107A12210A06109A13326A27310A22210A11128A13110A10017",
        "H181H261H380X11723A02311A22013A11227A06329A10017A03106A16029A24323A26108",
        "H183X00917A22224A11119A11220A00202A05321A17206A03311A23308",
        "H112H193H373X12836X10508X01926A23330A24306A29023A01315A14309A21115A18229A01016"};
    private static final int[] RARE_BEST = {103, 122, 123, 203, 223, 303, 320, 400, 402};

    private void rareDays() {
        for (int i = 0; i < RARE.length; i++) {
            real = new SoftAsks();
            model = new Model();
            story.setLength(0);
            writeText(RARE[i]);
            due("best(2), as noted", real.best(2), RARE_BEST[i]);
            for (int what = 0; what <= 2; what++) {
                due("best(" + what + ")", real.best(what), model.best(what));
            }
        }
    }

    private int go(int runs) {
        Model.tellParts();
        rareDays();
        for (int i = 0; i < runs && wrong <= 5; i++) {
            real = new SoftAsks();
            model = new Model();
            for (int days = 0; days < 2; days++) {
                story.setLength(0);
                writeText(text());
                for (int k = 0; k < 60; k++) {
                    call();
                }
                for (int w = 0; w <= 12; w++) {
                    due("about(" + w + ")", real.about(w), model.about(w));
                }
            }
        }
        System.out.println(wrong == 0 ? "oracle: all as due" : "oracle: " + wrong + " wrong");
        return wrong;
    }

    public static void main(String[] args) {
        int runs = args.length > 0 ? Integer.parseInt(args[0]) : 400;
        if (new OracleTest().go(runs) != 0) {
            System.exit(1);
        }
    }
}
