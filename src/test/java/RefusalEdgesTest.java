import java.util.LinkedHashMap;
import java.util.Map;

/** Refusals: which of several is told first, that they change nothing, and calls that never do: parts 3 to 5 of the terms. */
public final class RefusalEdgesTest {
    private static final int UNKNOWN = Edges.UNKNOWN, BAD = Edges.BAD, LATE = Edges.LATE, FULL = Edges.FULL;
    private static final int LOWEST = Edges.LOWEST, HIGHEST = Edges.HIGHEST;
    private static final Map<String, Edges.Scene> SCENES = new LinkedHashMap<>();

    public static void main(String[] args) {
        SCENES.put("new", SoftAsks::new);
        SCENES.put("busy", RefusalEdgesTest::busy);
        SCENES.put("gone on", RefusalEdgesTest::goneOn);
        SCENES.put("full", RefusalEdgesTest::full);
        scenesAreSo();
        constants();
        writes();
        days();
        wheres();
        doings();
        orderOfTwo();
        orderOfStand();
        asked();
        judged();
        seenOnes();
        shares();
        slots();
        nothingIsChanged();
        onlyTheSeed();
        extremes();
        lastCall();
        Edges.finish("refusal edges");
    }

    /** Three hosts, two spans, six asks; two slots, doings, two seen, a seed; a text that a 4 makes another day. */
    private static SoftAsks busy() {
        SoftAsks x = Edges.of("H131H220H111X00209X12030A00130A00205A01030A02112A05030A06330");
        x.set(0, 3);
        x.set(1, 5);
        x.keep(0);
        x.turn(2);
        x.set(2, 1);
        x.keep(1);
        x.set(3, 2);
        x.turn(2);
        x.see(0, 1);
        x.see(3, 0);
        x.seed(123456789L);
        Edges.write(x, "H225X00311A0310");
        return x;
    }

    /** No doings, though THE POLICY is not as at first; one slot is empty. */
    private static SoftAsks goneOn() {
        SoftAsks x = Edges.of("H110H190A00030A00030");
        x.set(0, 4);
        x.set(4, 2);
        x.turn(0);
        x.keep(1);
        x.turn(1);
        x.again(1);
        Edges.write(x, "A0120");
        return x;
    }

    /** 120 letters, 14 doings, six seen, both slots, all hosts out. */
    private static SoftAsks full() {
        SoftAsks x = Edges.of("H110H110A00030");
        for (int i = 0; i < 12; i++) {
            x.set(1, i % 9);
        }
        x.turn(0);
        x.turn(1);
        for (int i = 0; i < 6; i++) {
            x.see(0, 0);
        }
        x.keep(0);
        x.keep(1);
        x.seed(-1L);
        Edges.write(x, "H110A00001".repeat(3) + "Q".repeat(90));
        return x;
    }

    private static void scenesAreSo() {
        Edges.sentence("the scenes of this test");
        Edges.abouts("new", new SoftAsks(), 0, 0, 0, 0, 2, 2, 0, 1, 0, 0, 0, 0, 0);
        Edges.abouts("busy", busy(), 0, 3, 6, 2, 3, 5, 1, 2, 0, 0, 6, 2, 15);
        Edges.abouts("gone on", goneOn(), 0, 2, 2, 0, 4, 2, 0, 1, 2, 1, 0, 0, 5);
        Edges.abouts("full", full(), 0, 2, 1, 0, 2, 2, 0, 1, 0, 3, 14, 6, 120);
        Edges.due("full: what is seen can be", full().which(), 3);
        SoftAsks x = busy();
        x.write('4');
        Edges.due("a 4 makes its text a day", x.day(), 1);
        Edges.so("all of a scene fits 512 calls", Edges.all(busy()).size() < 400 && Edges.all(full()).size() < 300);
    }

    private static void everywhere(String call, Edges.Call c, long want) {
        for (Map.Entry<String, Edges.Scene> scene : SCENES.entrySet()) {
            Edges.refused(scene.getKey() + ": " + call, scene.getValue(), c, want);
        }
    }

    private static void constants() {
        Edges.sentence("UNKNOWN -1 .., BAD -2, LATE -3, FULL -4 .. NONE is -9");
        Edges.due("UNKNOWN", SoftAsks.UNKNOWN, -1);
        Edges.due("BAD", SoftAsks.BAD, -2);
        Edges.due("LATE", SoftAsks.LATE, -3);
        Edges.due("FULL", SoftAsks.FULL, -4);
        Edges.due("NONE", SoftAsks.NONE, -9);
    }

    private static void writes() {
        Edges.sentence("BAD; FULL: there are 120.");
        for (int letter : new int[] {-1, 256, LOWEST, HIGHEST}) {
            everywhere("write(" + letter + ")", x -> x.write(letter), BAD);
        }
        for (int letter : new int[] {0, 'H', 255}) {
            Edges.refused("full: write(" + letter + ")", RefusalEdgesTest::full, x -> x.write(letter), FULL);
        }
    }

    private static void days() {
        Edges.sentence("LATE: a FAULT .. a day() that is LATE changes nothing");
        Edges.refused("busy: day()", RefusalEdgesTest::busy, SoftAsks::day, LATE);
        Edges.refused("gone on: day()", RefusalEdgesTest::goneOn, SoftAsks::day, LATE);
        Edges.refused("full: day()", RefusalEdgesTest::full, SoftAsks::day, LATE);
    }

    private static void wheres() {
        Edges.sentence("about .. BAD; total .. BAD; best .. BAD; calm .. BAD: x; drawn .. BAD: m");
        for (int what : new int[] {-1, 12, LOWEST, HIGHEST}) {
            everywhere("about(" + what + ")", x -> x.about(what), BAD);
        }
        for (int what : new int[] {-1, 11, LOWEST, HIGHEST}) {
            everywhere("total(" + what + ")", x -> x.total(what), BAD);
        }
        for (int what : new int[] {-1, 3, LOWEST, HIGHEST}) {
            everywhere("best(" + what + ")", x -> x.best(what), BAD);
        }
        for (int tenths : new int[] {-1, 11, LOWEST, HIGHEST}) {
            everywhere("calm(" + tenths + ", true)", x -> x.calm(tenths, true), BAD);
            everywhere("calm(" + tenths + ", false)", x -> x.calm(tenths, false), BAD);
        }
        for (int m : new int[] {-1, 0, 5, LOWEST, HIGHEST}) {
            everywhere("drawn(" + m + ")", x -> x.drawn(m), BAD);
        }
    }

    private static void doings() {
        Edges.sentence("set .. BAD: what, v; turn .. UNKNOWN; undo .. LATE: there is none");
        int[][] none = {{0, 0}, {0, 5}, {1, -1}, {1, 9}, {2, -1}, {2, 3}, {3, -1}, {3, 4}, {4, -1}, {4, 3}, {-1, 1}, {5, 1},
            {-1, -1}, {LOWEST, 1}, {HIGHEST, 1}, {0, LOWEST}, {0, HIGHEST}};
        for (int[] n : none) {
            everywhere("set(" + n[0] + ", " + n[1] + ")", x -> x.set(n[0], n[1]), BAD);
        }
        for (int host : new int[] {-1, 3, 4, LOWEST, HIGHEST}) {
            everywhere("turn(" + host + ")", x -> x.turn(host), UNKNOWN);
        }
        Edges.refused("new: turn(0)", SoftAsks::new, x -> x.turn(0), UNKNOWN);
        Edges.refused("full: turn(2)", RefusalEdgesTest::full, x -> x.turn(2), UNKNOWN);
        Edges.refused("new: undo()", SoftAsks::new, SoftAsks::undo, LATE);
        Edges.refused("gone on: undo()", RefusalEdgesTest::goneOn, SoftAsks::undo, LATE);
    }

    private static void orderOfTwo() {
        Edges.sentence("ask .. UNKNOWN; BAD; host .. UNKNOWN; BAD. Of several what is told first.");
        for (int ask : new int[] {-1, 6, 12, LOWEST, HIGHEST}) {
            for (int what : new int[] {0, 3, 7, 8, -1, HIGHEST}) {
                everywhere("ask(" + ask + ", " + what + ")", x -> x.ask(ask, what), UNKNOWN);
            }
        }
        for (int host : new int[] {-1, 3, 4, LOWEST, HIGHEST}) {
            for (int what : new int[] {0, 3, 7, 8, -1, HIGHEST}) {
                everywhere("host(" + host + ", " + what + ")", x -> x.host(host, what), UNKNOWN);
            }
        }
        for (int what : new int[] {-1, 8, LOWEST, HIGHEST}) {
            Edges.refused("busy: ask(5, " + what + ")", RefusalEdgesTest::busy, x -> x.ask(5, what), BAD);
            Edges.refused("busy: ask(0, " + what + ")", RefusalEdgesTest::busy, x -> x.ask(0, what), BAD);
            Edges.refused("busy: host(2, " + what + ")", RefusalEdgesTest::busy, x -> x.host(2, what), BAD);
            Edges.refused("busy: host(0, " + what + ")", RefusalEdgesTest::busy, x -> x.host(0, what), BAD);
        }
        for (int what = 0; what <= 7; what++) {
            int w = what;
            Edges.so("busy: ask(5, " + w + ")", busy().ask(5, w) >= 0 || w == 5);
            Edges.so("busy: host(2, " + w + ")", busy().host(2, w) >= 0);
        }
    }

    private static void orderOfStand() {
        Edges.sentence("BAD: t; UNKNOWN; BAD: what. Of several what is told first.");
        for (int t : new int[] {-1, 80, LOWEST, HIGHEST}) {
            everywhere("stand(" + t + ", 0, 0)", x -> x.stand(t, 0, 0), BAD);
            everywhere("stand(" + t + ", 9, 0)", x -> x.stand(t, 9, 0), BAD);
            everywhere("stand(" + t + ", 9, 9)", x -> x.stand(t, 9, 9), BAD);
        }
        for (int host : new int[] {-1, 3, LOWEST, HIGHEST}) {
            for (int what : new int[] {0, 4, 5, -1}) {
                everywhere("stand(0, " + host + ", " + what + ")", x -> x.stand(0, host, what), UNKNOWN);
                everywhere("stand(79, " + host + ", " + what + ")", x -> x.stand(79, host, what), UNKNOWN);
            }
        }
        for (int what : new int[] {-1, 5, LOWEST, HIGHEST}) {
            Edges.refused("busy: stand(0, 2, " + what + ")", RefusalEdgesTest::busy, x -> x.stand(0, 2, what), BAD);
            Edges.refused("busy: stand(79, 0, " + what + ")", RefusalEdgesTest::busy, x -> x.stand(79, 0, what), BAD);
        }
    }

    private static void asked() {
        Edges.sentence("total (what = 0 .. 10); about (0 .. 11); best (0 .. 2); calm (0 .. 10); drawn (1 .. 4)");
        Edges.due("total(0), the first", new SoftAsks().total(0), 0);
        Edges.due("total(10), the last", new SoftAsks().total(10), Edges.bits(4));
        Edges.due("about(11), the last", busy().about(11), 15);
        Edges.due("best(2), the last", new SoftAsks().best(2), 100);
        Edges.due("calm(10, false), the last", new SoftAsks().calm(10, false), 1);
        Edges.due("drawn(4), the last", new SoftAsks().drawn(4), 0);
    }

    private static void judged() {
        Edges.sentence("judge .. BAD: n, row (0 or more, 4 n figures at most)");
        for (int n : new int[] {-1, 0, 5, LOWEST, HIGHEST}) {
            everywhere("judge(" + n + ", 1001)", x -> x.judge(n, 1001L), BAD);
            everywhere("judge(" + n + ", -1)", x -> x.judge(n, -1L), BAD);
        }
        long most = 1;
        for (int n = 1; n <= 4; n++) {
            int count = n;
            most *= 10000;
            for (long row : new long[] {-1L, Long.MIN_VALUE, most, Long.MAX_VALUE}) {
                everywhere("judge(" + n + ", " + row + ")", x -> x.judge(count, row), BAD);
            }
        }
    }

    private static void seenOnes() {
        Edges.sentence("see .. UNKNOWN: ask; BAD: was (0, 1); FULL: 6. Of several what is told first.");
        for (int ask : new int[] {-1, 6, 12, LOWEST, HIGHEST}) {
            for (int was : new int[] {0, 1, 2, -1}) {
                everywhere("see(" + ask + ", " + was + ")", x -> x.see(ask, was), UNKNOWN);
            }
        }
        for (int was : new int[] {-1, 2, LOWEST, HIGHEST}) {
            Edges.refused("busy: see(0, " + was + ")", RefusalEdgesTest::busy, x -> x.see(0, was), BAD);
            Edges.refused("full: see(0, " + was + ")", RefusalEdgesTest::full, x -> x.see(0, was), BAD);
        }
        Edges.refused("full: see(0, 0)", RefusalEdgesTest::full, x -> x.see(0, 0), FULL);
        Edges.refused("full: see(0, 1)", RefusalEdgesTest::full, x -> x.see(0, 1), FULL);
        Edges.due("busy: see(5, 1)", busy().see(5, 1), 3);
    }

    private static void shares() {
        Edges.sentence("share .. UNKNOWN; LATE: it is OUT");
        for (int host : new int[] {-1, 3, 4, LOWEST, HIGHEST}) {
            everywhere("share(" + host + ", true)", x -> x.share(host, true), UNKNOWN);
            everywhere("share(" + host + ", false)", x -> x.share(host, false), UNKNOWN);
        }
        for (boolean upper : new boolean[] {true, false}) {
            Edges.refused("gone on: share(0, ..)", RefusalEdgesTest::goneOn, x -> x.share(0, upper), LATE);
            Edges.refused("full: share(0, ..)", RefusalEdgesTest::full, x -> x.share(0, upper), LATE);
            Edges.refused("full: share(1, ..)", RefusalEdgesTest::full, x -> x.share(1, upper), LATE);
            Edges.refused("full: share(2, ..)", RefusalEdgesTest::full, x -> x.share(2, upper), UNKNOWN);
        }
    }

    private static void slots() {
        Edges.sentence("keep .. UNKNOWN; again .. UNKNOWN; LATE: none were kept");
        for (int slot : new int[] {-1, 2, LOWEST, HIGHEST}) {
            everywhere("keep(" + slot + ")", x -> x.keep(slot), UNKNOWN);
            everywhere("again(" + slot + ")", x -> x.again(slot), UNKNOWN);
        }
        Edges.refused("new: again(0)", SoftAsks::new, x -> x.again(0), LATE);
        Edges.refused("new: again(1)", SoftAsks::new, x -> x.again(1), LATE);
        Edges.refused("gone on: again(0)", RefusalEdgesTest::goneOn, x -> x.again(0), LATE);
    }

    private static void unchanged(String call, Edges.Call c) {
        for (Map.Entry<String, Edges.Scene> scene : SCENES.entrySet()) {
            Edges.leaves(scene.getKey() + ": " + call, scene.getValue(), c);
        }
    }

    private static void nothingIsChanged() {
        Edges.sentence("In what follows nothing is changed.");
        for (int what = 0; what <= 2; what++) {
            int w = what;
            unchanged("best(" + w + ")", x -> x.best(w));
        }
        for (long row : new long[] {1004200830024003L, 5002800181018201L, 8001810180008100L, 7001600260033001L}) {
            unchanged("judge(4, " + row + ")", x -> x.judge(4, row));
        }
        unchanged("judge(1, 1001)", x -> x.judge(1, 1001L));
        unchanged("judge(1, 8001)", x -> x.judge(1, 8001L));
        unchanged("which()", SoftAsks::which);
        for (int host = 0; host < 3; host++) {
            int h = host;
            unchanged("share(" + h + ", true)", x -> x.share(h, true));
            unchanged("share(" + h + ", false)", x -> x.share(h, false));
        }
        for (int tenths = 0; tenths <= 10; tenths += 5) {
            int t = tenths;
            unchanged("calm(" + t + ", true)", x -> x.calm(t, true));
        }
        Edges.sentence("asked of the day, and nothing is promised to change by it");
        unchanged("fault()", SoftAsks::fault);
        for (int what = 0; what <= 11; what++) {
            int w = what;
            unchanged("about(" + w + ")", x -> x.about(w));
            unchanged("total(" + w + ")", x -> x.total(w));
            unchanged("ask(0, " + w + ")", x -> x.ask(0, w));
            unchanged("host(1, " + w + ")", x -> x.host(1, w));
            unchanged("stand(5, 0, " + w + ")", x -> x.stand(5, 0, w));
        }
    }

    private static void onlyTheSeed() {
        Edges.sentence("(Nothing changes but THE SEED.)");
        for (int m = 1; m <= 4; m++) {
            int times = m;
            unchanged("drawn(" + m + "), and the seed as it was", x -> {
                long was = x.seed(5L);
                x.drawn(times);
                return x.seed(was);
            });
        }
        Edges.sentence("THE SEED is v: what it was.");
        unchanged("seed(..), and as it was", x -> x.seed(x.seed(77L)));
    }

    /** No arguments make a call throw or go on without end, in any of the scenes. */
    private static void extremes() {
        Edges.sentence("UNKNOWN, BAD, LATE, FULL: whatever is told");
        int[] all = {LOWEST, LOWEST + 1, -32, -9, -2, -1, 0, 1, 2, 3, 4, 5, 11, 12, 31, 32, 64, 79, 80, 120, 121, 255, 256,
            HIGHEST - 1, HIGHEST};
        int calls = 0;
        for (Edges.Scene scene : SCENES.values()) {
            for (int a : all) {
                SoftAsks x = scene.make();
                for (int b : all) {
                    x.ask(a, b);
                    x.host(a, b);
                    x.stand(a, b, 1);
                    x.stand(b, 0, a);
                    x.judge(a, b);
                    x.judge(b, a);
                    x.set(a, b);
                    x.see(a, b);
                    calls += 8;
                }
                x.write(a);
                x.about(a);
                x.turn(a);
                x.total(a);
                x.best(a);
                x.share(a, true);
                x.calm(a, false);
                x.drawn(a);
                x.keep(a);
                x.again(a);
                x.judge(4, Long.MAX_VALUE - a);
                x.seed(a);
                calls += 12;
            }
        }
        Edges.due("calls that were answered", calls, SCENES.size() * all.length * (all.length * 8 + 12));
    }

    private static void lastCall() {
        Edges.sentence("An object is used for at most 512 calls after it has been made");
        // 112 calls for the text, one for the day, then GAIN told anew
        String text = "H310H310H310H310X01079X11079X21079X31079" + "A00001".repeat(12);
        SoftAsks x = new SoftAsks();
        int calls = 0;
        for (int i = 0; i < text.length(); i++) {
            Edges.due("the letter " + i, x.write(text.charAt(i)), i + 1);
            calls++;
        }
        Edges.due("day()", x.day(), 12);
        calls++;
        while (calls < 504) {
            Edges.due("call " + calls, x.set(1, calls % 9), calls == 113 ? 2 : (calls - 1) % 9);
            calls++;
        }
        Edges.due("call 505", x.best(0), 12);
        Edges.due("call 506", x.share(3, true), 3);
        Edges.due("call 507", x.calm(5, false), 16);
        Edges.due("call 508", x.total(9), 8 + 12 * (503 % 9) > 80 ? 80 : 8 + 12 * (503 % 9));
        Edges.due("call 509", x.judge(4, 8001810182017003L), Edges.NONE);
        Edges.due("call 510", x.undo(), 13);
        Edges.due("call 511", x.about(4), 502 % 9);
        Edges.due("call 512", x.write('A'), 113);
        // what later calls answer is free; that they come back is not
        for (int i = 0; i < 1000; i++) {
            x.write('A');
            x.set(1, i % 9);
            x.see(0, 1);
            x.best(2);
        }
    }
}
