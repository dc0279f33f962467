/** The promises one by one, with answers worked out by hand from the document. */
public final class PromisesTest {
    private static final int UNKNOWN = -1, BAD = -2, LATE = -3, FULL = -4, NONE = -9;
    private static final int LOWEST = Integer.MIN_VALUE, HIGHEST = Integer.MAX_VALUE;
    private static final long TIMES = 6364136223846793005L, PLUS = 1442695040888963407L;
    private static int wrong = 0;

    private static void due(String call, long got, long want) {
        if (got != want) {
            wrong++;
            System.out.println(call + " answered " + got + ", due is " + want);
        }
    }

    private static void write(SoftAsks x, String text) {
        x.wipe();
        for (int i = 0; i < text.length(); i++) {
            x.write(text.charAt(i));
        }
    }

    private static SoftAsks of(String text) {
        SoftAsks x = new SoftAsks();
        write(x, text);
        if (x.day() < 0) {
            wrong++;
            System.out.println("no day: " + text);
        }
        return x;
    }

    private static void abouts(String when, SoftAsks x, int... want) {
        for (int i = 0; i < want.length; i++) {
            due(when + ": about(" + i + ")", x.about(i), want[i]);
        }
    }

    private static void totals(String when, SoftAsks x, int... want) {
        for (int i = 0; i < want.length; i++) {
            due(when + ": total(" + i + ")", x.total(i), want[i]);
        }
    }

    private static void ends(String when, SoftAsks x, int ask, int... want) {
        for (int i = 0; i < want.length; i++) {
            due(when + ": ask(" + ask + ", " + (3 + i) + ")", x.ask(ask, 3 + i), want[i]);
        }
    }

    private static void counts(String when, SoftAsks x, int host, int... want) {
        for (int i = 0; i < want.length; i++) {
            due(when + ": host(" + host + ", " + (3 + i) + ")", x.host(host, 3 + i), want[i]);
        }
    }

    private static void stands(String when, SoftAsks x, int t, int host, int... want) {
        for (int i = 0; i < want.length; i++) {
            due(when + ": stand(" + t + ", " + host + ", " + i + ")", x.stand(t, host, i), want[i]);
        }
    }

    private static int bits(float f) {
        return Float.floatToIntBits(f);
    }

    public static void main(String[] args) {
        newObject();
        texts();
        faults();
        days();
        settings();
        doings();
        askAnswers();
        hostAnswers();
        budgets();
        sending();
        hedging();
        shedding();
        breakerInARow();
        breakerOfEight();
        breakerByRate();
        halfOpen();
        standing();
        bestPolicy();
        judging();
        seeing();
        shares();
        chances();
        seeds();
        slots();
        System.out.println(wrong == 0 ? "promises: all as due" : "promises: " + wrong + " wrong");
        if (wrong != 0) {
            System.exit(1);
        }
    }

    private static void newObject() {
        SoftAsks x = new SoftAsks();
        abouts("new", x, 0, 0, 0, 2, 2, 0, 1, 0, 0, 0, 0, 0, BAD);
        due("new: about(-1)", x.about(-1), BAD);
        due("new: about(lowest)", x.about(LOWEST), BAD);
        due("new: about(highest)", x.about(HIGHEST), BAD);
        totals("new", x, 0, 0, 0, 0, 0, 0, 0, 0, 0, 8, bits(4f), BAD);
        due("new: total(-1)", x.total(-1), BAD);
        due("new: fault()", x.fault(), NONE);
        due("new: undo()", x.undo(), LATE);
        due("new: unsee()", x.unsee(), 0);
        due("new: which()", x.which(), 0);
        due("new: again(1)", x.again(1), LATE);
        due("new: seed(1)", x.seed(1L), 0L);
    }

    private static void texts() {
        SoftAsks x = new SoftAsks();
        due("write(0)", x.write(0), 1);
        due("write(255)", x.write(255), 2);
        due("write(256)", x.write(256), BAD);
        due("write(-1)", x.write(-1), BAD);
        due("write(lowest)", x.write(LOWEST), BAD);
        due("about(11)", x.about(11), 2);
        for (int i = 3; i <= 120; i++) {
            due("write, the letter " + i, x.write(65), i);
        }
        due("write, when full", x.write(65), FULL);
        due("write(256), when full", x.write(256), BAD);
        due("about(11), full", x.about(11), 120);
        due("wipe(), full", x.wipe(), 120);
        due("wipe(), empty", x.wipe(), 0);
        due("about(11), empty", x.about(11), 0);
        due("write behind wipe", x.write(72), 1);
    }

    private static void fault(String text, int want) {
        SoftAsks x = new SoftAsks();
        write(x, text);
        due("fault() of " + text, x.fault(), want);
        due("day() of " + text, x.day() == LATE ? 1 : 0, want == NONE ? 0 : 1);
    }

    private static void faults() {
        fault("", NONE);
        fault("H110", NONE);
        fault("H395", NONE);
        fault("h110", 0);
        fault(" H110", 0);
        fault("H", 1);
        fault("H1", 2);
        fault("H11", 3);
        fault("H010", 1);
        fault("H410", 1);
        fault("H100", 2);
        fault("H116", 3);
        fault("H11/", 3);
        fault("H11:", 3);
        fault("H1:0", 2);
        fault("H1/0", 2);
        fault("A0:", 2);
        fault("A:", 1);
        fault("A0001:", 5);
        fault("H110X01009", 8);
        fault("H110X01019", NONE);
        fault("H110X07069", 8);
        fault("H110X07070", NONE);
        fault("H1101", 4);
        fault("H110H", 5);
        fault("X", 0);
        fault("A00001X00000", 6);
        fault("H110X", 5);
        fault("H110X1", 5);
        fault("H110H110X1", 10);
        fault("H110X08", 6);
        fault("H110X079", 8);
        fault("H110X07900", 8);
        fault("H110X0797", 9);
        fault("H110X07978", 9);
        fault("H110X07979", NONE);
        fault("H110X00000", NONE);
        fault("H110X04539", 8);
        fault("H110X04544", 9);
        fault("H110X04545", NONE);
        fault("H110X04550", NONE);
        fault("H110X04580", 8);
        fault("H110X10000H110", 5);
        fault("A5", 1);
        fault("A41", 2);
        fault("A40", 3);
        fault("A404", 3);
        fault("A403", 4);
        fault("A40340", 4);
        fault("A40331", 5);
        fault("A40330", NONE);
        fault("A00000", 5);
        fault("A0000", 5);
        fault("A00001", NONE);
        fault("A39329", NONE);
        fault("A000011", 6);
        fault("H110".repeat(4), NONE);
        fault("H110".repeat(5), 16);
        fault("H110" + "X00000".repeat(4), NONE);
        fault("H110" + "X00000".repeat(5), 28);
        fault("A00001".repeat(12), NONE);
        fault("A00001".repeat(13), 72);
        fault("H110".repeat(4) + "X00000".repeat(4) + "A00001".repeat(12), NONE);
        fault("H110".repeat(4) + "X00000".repeat(4) + "A00001".repeat(12) + "Q", 112);
        // 120 letters of which the last ones could go on only behind the 120th
        fault("A00001".repeat(12) + "H110".repeat(4) + "X00000".repeat(4) + "AAAAAAAA", 112);
        fault("\u00ff", 0);
        fault("\u0000", 0);
    }

    private static void days() {
        SoftAsks x = of("H123H395X10079X01020A05309A40030");
        abouts("told", x, 2, 2, 2, 2, 2, 0, 1, 0, 0, 0, 0, 32);
        due("host(1, 0)", x.host(1, 0), 3);
        due("ask(1, 0)", x.ask(1, 0), 40);
        x.set(0, 4);
        x.turn(1);
        x.keep(0);
        x.see(1, 0);
        x.seed(77L);
        x.write('H');
        due("day() with a fault", x.day(), LATE);
        abouts("behind a day that is late", x, 2, 2, 2, 4, 2, 0, 1, 0, 2, 2, 1, 33);
        due("again(0) behind a day that is late", x.again(0), 2);
        x.turn(0);
        write(x, "H110A00001");
        due("day()", x.day(), 1);
        abouts("behind a new day", x, 1, 1, 0, 2, 2, 0, 1, 0, 0, 0, 1, 10);
        due("undo() behind a new day", x.undo(), LATE);
        due("again(0) behind a new day", x.again(0), LATE);
        due("the seed behind a new day", x.seed(0L), 77L);
        due("the same day anew", x.day(), 1);
        x.wipe();
        due("the day stays when the text is wiped", x.about(0), 1);
        due("an empty day", x.day(), 0);
        abouts("an empty day", x, 0, 0, 0);
        due("ask(0, 0) on an empty day", x.ask(0, 0), UNKNOWN);
    }

    private static void settings() {
        int[] least = {1, 0, 0, 0, 0};
        int[] most = {4, 8, 2, 3, 2};
        int[] first = {2, 2, 0, 1, 0};
        for (int what = 0; what < 5; what++) {
            SoftAsks x = new SoftAsks();
            due("set(" + what + ", too little)", x.set(what, least[what] - 1), BAD);
            due("set(" + what + ", too much)", x.set(what, most[what] + 1), BAD);
            due("set(" + what + ", lowest)", x.set(what, LOWEST), BAD);
            due("set(" + what + ", highest)", x.set(what, HIGHEST), BAD);
            due("doings behind what is refused", x.about(9), 0);
            due("the setting behind what is refused", x.about(3 + what), first[what]);
            int was = first[what];
            for (int v = least[what]; v <= most[what]; v++) {
                due("set(" + what + ", " + v + ")", x.set(what, v), was);
                due("about(" + (3 + what) + ")", x.about(3 + what), v);
                was = v;
            }
        }
        SoftAsks x = new SoftAsks();
        due("set(5, 1)", x.set(5, 1), BAD);
        due("set(-1, 1)", x.set(-1, 1), BAD);
        due("set(highest, 1)", x.set(HIGHEST, 1), BAD);
        due("set as it was", x.set(0, 2), 2);
        due("set as it was is a doing", x.about(9), 1);
    }

    private static void doings() {
        SoftAsks x = of("H110H110H110H110");
        due("turn(4)", x.turn(4), UNKNOWN);
        due("turn(-1)", x.turn(-1), UNKNOWN);
        due("turn(lowest)", x.turn(LOWEST), UNKNOWN);
        due("turn(3)", x.turn(3), 1);
        due("turn(0)", x.turn(0), 1);
        due("out", x.about(8), 9);
        due("turn(3) back", x.turn(3), 0);
        due("out", x.about(8), 1);
        due("undo()", x.undo(), 2);
        due("out", x.about(8), 9);
        due("set(1, 8)", x.set(1, 8), 2);
        due("undo()", x.undo(), 2);
        due("gain", x.about(4), 2);
        due("undo()", x.undo(), 1);
        due("out", x.about(8), 8);
        due("undo()", x.undo(), 0);
        due("out", x.about(8), 0);
        due("undo()", x.undo(), LATE);
        x.set(1, 0);
        x.set(1, 1);
        for (int i = 0; i < 13; i++) {
            x.turn(2);
        }
        due("doings, no more than 14", x.about(9), 14);
        for (int i = 13; i >= 1; i--) {
            due("undo()", x.undo(), i);
        }
        due("out when all turns are undone", x.about(8), 0);
        due("undo() of the oldest one", x.undo(), 0);
        due("gain as the forgotten doing left it", x.about(4), 0);
        due("undo()", x.undo(), LATE);
    }

    private static void askAnswers() {
        SoftAsks x = of("H110A00005A07203");
        due("ask(2, 0)", x.ask(2, 0), UNKNOWN);
        due("ask(-1, 0)", x.ask(-1, 0), UNKNOWN);
        due("ask(2, 99)", x.ask(2, 99), UNKNOWN);
        due("ask(highest, 0)", x.ask(HIGHEST, 0), UNKNOWN);
        due("ask(1, 8)", x.ask(1, 8), BAD);
        due("ask(1, -1)", x.ask(1, -1), BAD);
        due("ask(1, 0)", x.ask(1, 0), 7);
        due("ask(1, 1)", x.ask(1, 1), 2);
        due("ask(1, 2)", x.ask(1, 2), 3);
        ends("plain", x, 0, 2, 1, 0, 1, 0);
        ends("plain", x, 1, 2, 8, 0, 1, 0);
        float learnt = 4f + 0.25f * (1f - 4f);
        learnt = learnt + 0.25f * (1f - learnt);
        totals("plain", x, 2, 0, 0, 2, 0, 0, 0, 0, 0, 12, bits(learnt));
        // what ends at the very tick of the limit is done; a tick later it is past it, and wasted
        ends("at the limit", of("H130A00003"), 0, 2, 3, 0, 1, 0);
        x = of("H140A00003");
        ends("past the limit", x, 0, 4, 3, NONE, 1, 0);
        totals("past the limit", x, 0, 0, 1, 1, 0, 0, 0, 0, 1, 10, bits(4f));
        // one that waits is gone when it is past its limit
        x = of("H191A00030A00005");
        ends("waiting past the limit", x, 1, 4, 5, NONE, 1, 0);
        due("what ended", x.host(0, 3), 1);
        due("waits ahead of the limit", x.stand(4, 0, 0), 1);
        due("waits at the limit", x.stand(5, 0, 0), 0);
    }

    private static void hostAnswers() {
        SoftAsks x = of("H245X00202A00001A00030A40030");
        due("host(1, 0)", x.host(1, 0), UNKNOWN);
        due("host(-1, 0)", x.host(-1, 0), UNKNOWN);
        due("host(1, 8)", x.host(1, 8), UNKNOWN);
        due("host(0, 8)", x.host(0, 8), BAD);
        due("host(0, -1)", x.host(0, -1), BAD);
        due("host(0, 0)", x.host(0, 0), 2);
        due("host(0, 1)", x.host(0, 1), 4);
        due("host(0, 2)", x.host(0, 2), 5);
        counts("one wasted", x, 0, 3, 0, 1, 0, 0);
        // spans have both their ends; a work that is bad and wasted counts as both
        counts("span at its first tick", of("H140X00410A00001"), 0, 1, 1, 1, 0, 0);
        counts("span at its last tick", of("H140X00004A00001"), 0, 1, 1, 1, 0, 0);
        counts("ahead of a span", of("H140X00510A00001"), 0, 1, 0, 1, 0, 0);
        counts("behind a span", of("H140X00003A00001"), 0, 1, 0, 1, 0, 0);
        counts("another host's span", of("H140H140X10079A00001"), 0, 1, 0, 1, 0, 0);
        counts("the second span", of("H140X00000X00404A00001"), 0, 1, 1, 1, 0, 0);
        // a bad work's ask is tried again while it is open: 0 at 0 (bad at 4), 0 at 4, good at 8
        x = of("H140X00404A00030");
        ends("bad, then good", x, 0, 2, 8, 0, 2, 0);
        counts("bad, then good", x, 0, 2, 1, 0, 0, 0);
        // out hosts do nothing
        x = of("H110H110A00005");
        x.turn(0);
        counts("out", x, 0, 0, 0, 0, 0, 0);
        ends("the other one", x, 0, 2, 1, 1, 1, 0);
        x.turn(1);
        totals("all out", x, 0, 1, 0, 2, 1, 0, 2, 0, 0, 2, bits(4f));
    }

    private static void budgets() {
        // 8 and 12 times 8, 80 at most: ten tries more
        SoftAsks x = of("A00030".repeat(12));
        x.set(1, 8);
        totals("budget of 80 at most", x, 0, 12, 0, 22, 10, 0, 22, 0, 0, 0, bits(4f));
        ends("paid", x, 9, 3, 1, NONE, 2, 0);
        ends("not paid", x, 10, 3, 0, NONE, 1, 0);
        x.set(1, 0);
        totals("no gain", x, 0, 12, 0, 13, 1, 0, 13, 0, 0, 0, bits(4f));
        x.set(0, 1);
        totals("one try", x, 0, 12, 0, 12, 0, 0, 12, 0, 0, 8, bits(4f));
        x.set(1, 8);
        due("budget, no more than 80", x.total(9), 80);
        // one that is asked at each tick once only
        x = of("A00030");
        x.set(0, 4);
        x.set(1, 8);
        ends("a try a tick", x, 0, 3, 2, NONE, 3, 0);
        x.set(0, 3);
        ends("three tries", x, 0, 3, 2, NONE, 3, 0);
        x.set(0, 2);
        ends("two tries", x, 0, 3, 1, NONE, 2, 0);
        due("budget kept", x.total(9), 8);
        // a limit ends it ahead of AGAIN
        ends("expired at 1", of("A00001"), 0, 4, 1, NONE, 2, 0);
    }

    private static void sending() {
        // to the host with the fewest copies, of like ones the least
        SoftAsks x = of("H193H193H193A00030A00030A00030A00030");
        stands("in turn", x, 0, 0, 1, 1, 0, 3, 0);
        stands("in turn", x, 0, 1, 0, 1, 0, NONE, 0);
        stands("in turn", x, 0, 2, 0, 1, 0, NONE, 0);
        x.turn(0);
        stands("without the first", x, 0, 0, 0, 0, 0, NONE, 0);
        stands("without the first", x, 0, 1, 1, 1, 0, 2, 0);
        stands("without the first", x, 0, 2, 1, 1, 0, 3, 0);
        // works that go on when their ask has ended count as copies of the host
        x = of("H390H390A00001A01030");
        stands("a work of an ask that has ended", x, 1, 1, 0, 1, 0, NONE, 0);
        // a first come is a first served: ends 1, 2, 3 in the order of the row
        x = of("H115A00030A00030A00030");
        for (int a = 0; a < 3; a++) {
            ends("in order", x, a, 2, a + 1, 0, 1, 0);
        }
        // works that end at one tick end as they were begun: what is learnt depends on it
        x = of("H210A00030A00030");
        due("both at once", x.ask(0, 4) * 100 + x.ask(1, 4), 101);
        // an ask of a later hour has not come: nothing waits for it
        stands("ahead of its hour", of("H110A05030"), 4, 0, 0, 0, 0, NONE, 0);
        stands("at its hour", of("H110A05030"), 5, 0, 0, 1, 0, NONE, 0);
    }

    private static void hedging() {
        SoftAsks x = of("H190H190A00030");
        x.set(2, 1);
        due("no hedge at 4", x.stand(4, 1, 1), 0);
        due("a hedge at 5", x.stand(5, 1, 1), 1);
        ends("hedged", x, 0, 2, 9, 0, 1, 1);
        totals("hedged", x, 1, 0, 0, 2, 0, 1, 0, 0, 1, 2, bits(5.25f));
        counts("hedged", x, 1, 1, 0, 1, 0, 0);
        x.set(2, 2);
        ends("older than twice what was learnt", x, 0, 2, 9, 0, 1, 0);
        totals("older than twice what was learnt", x, 1, 0, 0, 1, 0, 0, 0, 0, 0, 10, bits(5.25f));
        // no second host: the hedge is paid, and lost
        x = of("H190A00030");
        x.set(2, 1);
        ends("hedge lost", x, 0, 2, 9, 0, 1, 1);
        totals("hedge lost", x, 1, 0, 0, 2, 0, 1, 1, 0, 0, 2, bits(5.25f));
        // no budget: no hedge
        x = of("H290H290A00030A00030");
        x.set(2, 1);
        x.set(1, 0);
        due("the first is hedged", x.ask(0, 7), 1);
        due("the second is not", x.ask(1, 7), 0);
        due("budget", x.total(9), 0);
        // a hedge that waits is gone when its ask is done
        x = of("H190H195A00030A00030");
        x.set(1, 8);
        x.set(2, 1);
        due("the hedge waits", x.stand(5, 1, 3), 0);
        due("the hedge is gone", x.stand(9, 1, 0), 0);
        due("nothing is wasted", x.total(8), 0);
        // what was learnt lets hedges come sooner: d is 1, four times
        x = of("H110H190A00030A01030A02030A03030A04030A04030");
        x.set(2, 1);
        due("hedged sooner", x.ask(5, 7), 1);
    }

    private static void shedding() {
        SoftAsks x = of("H190A00330A00230A00130A00230");
        x.set(0, 1);
        ends("by 0 the last", x, 0, 2, 9, 0, 1, 0);
        totals("by 0 the last", x, 1, 3, 0, 4, 0, 0, 0, 3, 0, 16, bits(5.25f));
        due("shed by the host", x.host(0, 7), 3);
        x = of("H190A00130A00330A00230A00330");
        x.set(0, 1);
        x.set(4, 1);
        ends("by 1 the greatest rank, the first one", x, 1, 2, 9, 0, 1, 0);
        ends("by 1 of like ones the last is shed", x, 3, 3, 0, NONE, 1, 0);
        // hour and limit together: 0 and 20, 0 and 25, 0 and 25, 0 and 12
        x = of("H190A00120A00125A00325A00312");
        x.set(0, 1);
        x.set(4, 2);
        ends("by 2 the latest limit, the first one", x, 1, 2, 9, 0, 1, 0);
        ends("by 2 of like ones the last is shed", x, 2, 3, 0, NONE, 1, 0);
        // the hour counts: 10 and 12 is more than 9 and 12
        x = of("H190A00001A09112A10112");
        x.set(0, 1);
        x.set(4, 2);
        ends("hours count", x, 1, 2, 18, 0, 1, 0);
        // room and workers that are free: two begin, one waits, the fourth is shed
        x = of("H291A00030A00030A00030A00030");
        x.set(0, 1);
        stands("room", x, 0, 0, 1, 2, 0, 2, 0);
        due("room: shed", x.total(7), 1);
        // when workers are taken only the room is left
        x = of("H291A00030A00030A01030A01030");
        x.set(0, 1);
        stands("room behind works", x, 1, 0, 1, 2, 0, 2, 0);
        due("room behind works: shed", x.total(7), 1);
        // one that loses its copy behind its turn waits for the next tick
        x = of("H190A00130A00030A00330");
        x.set(4, 1);
        x.set(1, 8);
        ends("put out by a greater rank", x, 0, 3, 1, NONE, 2, 0);
    }

    private static void breakerInARow() {
        String bad = "H310X00079A00030A00030A00030";
        SoftAsks x = of(bad);
        due("shut ahead of it", x.stand(0, 0, 2), 0);
        for (int t = 1; t <= 5; t++) {
            due("open behind tick " + t, x.stand(t, 0, 2), 1);
        }
        due("half behind tick 6", x.stand(6, 0, 2), 2);
        due("half to the end", x.stand(79, 0, 2), 2);
        counts("opened once", x, 0, 3, 3, 0, 1, 0);
        totals("opened once", x, 0, 3, 0, 4, 1, 0, 1, 0, 0, 6, bits(4f));
        ends("lost by the breaker", x, 0, 3, 2, NONE, 2, 0);
        ends("no budget left", x, 1, 3, 1, NONE, 1, 0);
        x.set(3, 0);
        due("by 0 it never opens", x.host(0, 6), 0);
        due("by 0 it is shut", x.stand(1, 0, 2), 0);
        // two bad ones, a good one, two bad ones: never three in a row
        x = of("H210X00101X00303A00030A00030A01030A02030A02030");
        x.set(0, 1);
        counts("not in a row", x, 0, 5, 4, 0, 0, 0);
        // bad ones of asks that have ended are noted as well
        x = of("H340X00079A00001A00001A00001");
        counts("wasted ones are noted", x, 0, 3, 3, 3, 1, 0);
    }

    private static void breakerOfEight() {
        SoftAsks x = of("H310X00101A00030A00030A00030A01030");
        x.set(3, 2);
        due("three are too few", x.stand(1, 0, 2), 0);
        due("three of four, the last one good", x.stand(2, 0, 2), 1);
        counts("of four", x, 0, 6, 3, 0, 1, 0);
        due("two asks and one done", x.total(0), 3);
        // good, good, bad, bad: half of four
        x = of("H210X00202A00030A00030A01030A01030");
        x.set(3, 2);
        x.set(0, 1);
        due("not yet", x.stand(1, 0, 2), 0);
        due("half of four", x.stand(2, 0, 2), 1);
        // one good and one bad behind three good ones: two of five are less than half
        x = of("H310X00202A00030A00030A00030A01030A01030");
        x.set(3, 2);
        x.set(0, 1);
        counts("two of five", x, 0, 5, 2, 0, 0, 0);
        // bad at 1, 5, 7 and 8: half of eight, the first of them counted
        x = of("H110X00101X00505X00708A00001A01001A02001A03001A04001A05001A06001A07001");
        x.set(3, 2);
        x.set(0, 1);
        due("three of seven", x.stand(7, 0, 2), 0);
        due("four of eight", x.stand(8, 0, 2), 1);
        counts("four of eight", x, 0, 8, 4, 0, 1, 0);
        // a good one more at 8: the one of 1 is forgotten when it is bad at 9
        x = of("H110X00101X00505X00707X00909A00001A01001A02001A03001A04001A05001A06001A07001A08001");
        x.set(3, 2);
        x.set(0, 1);
        counts("three of the last eight of nine", x, 0, 9, 4, 0, 0, 0);
        // eight good, then three bad: of the last eight three are bad; one more: half
        x = of("H310X00409A00001A00001A00001A01001A01001A01001A02001A02001A03001A03001A03001A04001");
        x.set(3, 2);
        x.set(0, 1);
        due("three of the last eight", x.stand(4, 0, 2), 0);
        due("half of the last eight", x.stand(5, 0, 2), 1);
        counts("of eight", x, 0, 12, 4, 0, 1, 0);
    }

    private static void breakerByRate() {
        SoftAsks x = of("H111X00104A00001A01001A02001A03001A04001A05001");
        x.set(3, 3);
        x.set(0, 1);
        due("rate 0 at first", x.stand(0, 0, 4), 0);
        due("rate 1/4", x.stand(1, 0, 4), bits(0.25f));
        due("rate 7/16", x.stand(2, 0, 4), bits(0.4375f));
        due("rate forgotten", x.stand(3, 0, 4), 0);
        due("opened at 3", x.stand(3, 0, 2), 1);
        due("opened once", x.host(0, 6), 1);
        x = of("H111X00101X00303A00001A01001A02001A03001A04001");
        x.set(3, 3);
        x.set(0, 1);
        due("rate with a good one", x.stand(2, 0, 4), bits(0.1875f));
        due("and a bad one", x.stand(3, 0, 4), bits(0.1875f + 0.25f * (1f - 0.1875f)));
        due("and good ones", x.stand(5, 0, 4), bits(0.390625f * 0.75f * 0.75f));
        due("not opened", x.host(0, 6), 0);
        for (int breaker = 0; breaker < 3; breaker++) {
            x.set(3, breaker);
            due("rate stays 0 by " + breaker, x.stand(3, 0, 4), 0);
        }
        // bad at 2: rate is rounded as floats are, good ones behind it
        x = of("H110X00202A00001A01001A02001A03001A04001A05001A06001A07001A08001A09001A10001A11001");
        x.set(3, 3);
        float rate = 0.25f;
        for (int t = 3; t <= 12; t++) {
            rate = rate + 0.25f * (0f - rate);
            due("rate behind tick " + t, x.stand(t, 0, 4), bits(rate));
        }
    }

    private static void halfOpen() {
        // opens at 1, half from 7; the one of 7 tries it, the other one of 7 is lost
        String start = "H310X000";
        SoftAsks x = of(start + "01A00001A00001A00001A07030A07030");
        x.set(0, 1);
        due("one is let come", x.stand(7, 0, 1), 1);
        due("the other is lost", x.total(6), 1);
        due("half while it is tried", x.stand(7, 0, 2), 2);
        due("shut by a good one", x.stand(8, 0, 2), 0);
        counts("shut again", x, 0, 4, 3, 0, 1, 0);
        x = of(start + "79A00001A00001A00001A06030A07030A12030A13030");
        x.set(0, 1);
        due("still open at 6", x.ask(3, 3) * 10 + x.ask(4, 3), 33);
        due("lost at 6, at 12 and at 13", x.total(6), 3);
        due("opens anew at 8", x.stand(8, 0, 2), 1);
        due("open to 13", x.stand(12, 0, 2), 1);
        due("works that ended", x.host(0, 3), 4);
        due("half from 14", x.stand(13, 0, 2), 2);
        due("opened twice", x.host(0, 6), 2);
    }

    private static void standing() {
        SoftAsks x = of("H192A00030A00030A00030");
        due("stand(80, 0, 0)", x.stand(80, 0, 0), BAD);
        due("stand(-1, 0, 0)", x.stand(-1, 0, 0), BAD);
        due("stand(-1, 9, 9)", x.stand(-1, 9, 9), BAD);
        due("stand(highest, 0, 0)", x.stand(HIGHEST, 0, 0), BAD);
        due("stand(0, 1, 0)", x.stand(0, 1, 0), UNKNOWN);
        due("stand(0, -1, 9)", x.stand(0, -1, 9), UNKNOWN);
        due("stand(0, 0, 5)", x.stand(0, 0, 5), BAD);
        due("stand(0, 0, -1)", x.stand(0, 0, -1), BAD);
        stands("tick 0", x, 0, 0, 2, 1, 0, 1, 0);
        stands("tick 8", x, 8, 0, 2, 1, 0, 1, 0);
        stands("tick 9", x, 9, 0, 1, 1, 0, 2, 0);
        stands("tick 18", x, 18, 0, 0, 1, 0, NONE, 0);
        stands("tick 27", x, 27, 0, 0, 0, 0, NONE, 0);
        stands("tick 79", x, 79, 0, 0, 0, 0, NONE, 0);
        due("nothing is changed by it", x.total(0), 3);
    }

    private static void bestPolicy() {
        SoftAsks x = of("H110H110X00079A00003");
        due("best(3)", x.best(3), BAD);
        due("best(-1)", x.best(-1), BAD);
        // bad at 1 by host 0, at 2 again by host 0; a hedge never comes in time; nothing is done
        due("best(0)", x.best(0), 0);
        due("best(1)", x.best(1), 0);
        due("best(2)", x.best(2), 100);
        // bad at 9 by host 0; two tries go to host 0 again; a hedge at 5 is done by host 1 at 6, one is wasted
        x = of("H190H110X00079A00012");
        due("best(0)", x.best(0), 1);
        due("best(1)", x.best(1), 1);
        due("best(2)", x.best(2), 110);
        x.set(2, 2);
        x.set(0, 4);
        abouts("best changes nothing", x, 2, 1, 1, 4, 2, 2, 1, 0, 0, 2);
        due("whatever the policy is", x.best(2), 110);
        x.turn(0);
        due("out hosts stay out", x.best(2), 100);
        due("out hosts stay out", x.best(1), 0);
        // gain stays as it is: without it the shed ask takes the 8 that the bad one would need
        x = of("H110X00001A00030A00030");
        x.set(1, 0);
        due("best(0) without gain", x.best(0), 0);
        x.set(1, 8);
        due("best(0) with gain", x.best(0), 1);
        due("best(2) with gain", x.best(2), 200);
    }

    private static void judging() {
        SoftAsks x = of("H110H110A00001A00001A05030");
        due("judge(0, 0)", x.judge(0, 0L), BAD);
        due("judge(5, 0)", x.judge(5, 0L), BAD);
        due("judge(-1, 0)", x.judge(-1, 0L), BAD);
        due("judge(1, -1)", x.judge(1, -1L), BAD);
        due("judge(1, 10000)", x.judge(1, 10000L), BAD);
        due("judge(2, 100000000)", x.judge(2, 100000000L), BAD);
        due("judge(3, 10^12)", x.judge(3, 1000000000000L), BAD);
        due("judge(4, 10^16)", x.judge(4, 10000000000000000L), BAD);
        due("judge(4, highest)", x.judge(4, Long.MAX_VALUE), BAD);
        due("judge(4, lowest)", x.judge(4, Long.MIN_VALUE), BAD);
        due("judge(1, 0)", x.judge(1, 0L), 0);
        due("judge(1, 9999)", x.judge(1, 9999L), 0);
        due("judge(1, 9000)", x.judge(1, 9000L), 0);
        int[] least = {1, 0, 0, 0, 0};
        int[] most = {4, 8, 2, 3, 2};
        for (int kind = 1; kind <= 5; kind++) {
            for (int v = 0; v <= 9; v++) {
                boolean can = v >= least[kind - 1] && v <= most[kind - 1];
                due("judge of kind " + kind + ", " + v, x.judge(1, kind * 1000L + v), can ? NONE : 0);
            }
            due("judge of kind " + kind + " with a figure", x.judge(1, kind * 1000L + 101), 0);
            due("judge of kind " + kind + " with a figure", x.judge(1, kind * 1000L + 11), 0);
        }
        due("judge(1, 6002)", x.judge(1, 6002L), NONE);
        due("judge(1, 6003)", x.judge(1, 6003L), 0);
        due("judge(1, 6022)", x.judge(1, 6022L), NONE);
        due("judge(1, 6032)", x.judge(1, 6032L), 0);
        due("judge(1, 6992)", x.judge(1, 6992L), 0);
        due("judge(1, 6001)", x.judge(1, 6001L), 0);
        due("judge(1, 7003)", x.judge(1, 7003L), NONE);
        due("judge(1, 7002)", x.judge(1, 7002L), 0);
        due("judge(1, 7103)", x.judge(1, 7103L), 0);
        due("judge(1, 8101)", x.judge(1, 8101L), NONE);
        due("judge(1, 8100)", x.judge(1, 8100L), NONE);
        due("judge(1, 8102)", x.judge(1, 8102L), 0);
        due("judge(1, 8111)", x.judge(1, 8111L), 0);
        due("judge(1, 8201)", x.judge(1, 8201L), 0);
        // host 1 out: the second ask is shed and expires; not out any more: it is done
        due("out, then how it ends", x.judge(4, 8101601470028100L), NONE);
        due("out, and again, and in", x.judge(4, 8101810181007003L), NONE);
        due("out, then not so", x.judge(4, 8101601270028100L), 1);
        due("the place of the third", x.judge(4, 8101601470038100L), 2);
        due("the place of the fourth", x.judge(4, 8101601470029000L), 3);
        due("the first of two faults", x.judge(4, 8101900070029000L), 1);
        // one try: the shed one fails instead
        due("tries", x.judge(3, 810110016013L), NONE);
        abouts("judge changes nothing", x, 2, 3, 0, 2, 2, 0, 1, 0, 0, 0);
        x.turn(1);
        due("as it stands", x.judge(1, 7002L), NONE);
        due("in again", x.judge(2, 81007003L), NONE);
    }

    private static void seeing() {
        SoftAsks x = of("H110H110X10079A00001A00001");
        due("see(2, 0)", x.see(2, 0), UNKNOWN);
        due("see(-1, 5)", x.see(-1, 5), UNKNOWN);
        due("see(0, 2)", x.see(0, 2), BAD);
        due("see(0, -1)", x.see(0, -1), BAD);
        due("nothing seen", x.which(), 3);
        due("see(0, 1)", x.see(0, 1), 1);
        due("ask 0 was done: host 1 was spoilt", x.which(), 2);
        due("see(1, 0)", x.see(1, 0), 2);
        due("as well", x.which(), 2);
        due("see(0, 0)", x.see(0, 0), 3);
        due("both can not be", x.which(), 0);
        due("unsee()", x.unsee(), 3);
        due("see(0, 0)", x.see(0, 0), 1);
        due("ask 0 was not done: host 0 was spoilt", x.which(), 1);
        x.turn(0);
        due("with host 0 out, ask 0 is not done if host 1 is spoilt", x.which(), 2);
        x.undo();
        for (int i = 2; i <= 6; i++) {
            due("see the same", x.see(0, 0), i);
        }
        due("see, full", x.see(0, 0), FULL);
        due("see(0, 7), full", x.see(0, 7), BAD);
        due("see(9, 0), full", x.see(9, 0), UNKNOWN);
        due("about(10)", x.about(10), 6);
        due("unsee()", x.unsee(), 6);
        due("unsee()", x.unsee(), 0);
        // what is seen stays; an ask that is there no more was not done
        x.see(1, 0);
        write(x, "H110H110A00001");
        x.day();
        due("no such ask any more, not done", x.which(), 3);
        x.unsee();
        write(x, "H110H110A00001A00001");
        x.day();
        x.see(1, 1);
        write(x, "H110H110A00001");
        x.day();
        due("no such ask any more, done", x.which(), 0);
        due("about(10)", x.about(10), 1);
    }

    private static void fraction(String what, SoftAsks x, int host, int top, int bottom) {
        due(what + ": share(" + host + ", true)", x.share(host, true), top);
        due(what + ": share(" + host + ", false)", x.share(host, false), bottom);
    }

    private static void shares() {
        SoftAsks x = of("H110H110A00001A00001");
        due("share(2)", x.share(2, true), UNKNOWN);
        due("share(-1)", x.share(-1, false), UNKNOWN);
        fraction("two for two", x, 0, 1, 1);
        fraction("two for two", x, 1, 1, 1);
        x.turn(1);
        due("share of one that is out", x.share(1, true), LATE);
        due("share of one that is out", x.share(1, false), LATE);
        fraction("one for two", x, 0, 1, 1);
        x = of("H110H110H110A00001A00001");
        fraction("three for two", x, 2, 2, 3);
        x = of("H110H110H110H110A00001A00001");
        fraction("four for two", x, 3, 1, 2);
        x.turn(0);
        fraction("three of four for two", x, 3, 2, 3);
        abouts("share changes nothing", x, 4, 2, 0, 2, 2, 0, 1, 0, 1, 1);
        x = of("H110H110X00079A00001");
        fraction("spoilt", x, 0, -1, 2);
        fraction("the other one", x, 1, 1, 2);
        x = of("H110H110X00079X10079A00001");
        fraction("all spoilt", x, 0, 0, 1);
        fraction("nothing asked", of("H110"), 0, 0, 1);
    }

    private static void calm(String what, SoftAsks x, int tenths, int top, int bottom) {
        due(what + ": calm(" + tenths + ", true)", x.calm(tenths, true), top);
        due(what + ": calm(" + tenths + ", false)", x.calm(tenths, false), bottom);
    }

    private static void chances() {
        SoftAsks x = of("H110A00001");
        due("calm(-1)", x.calm(-1, true), BAD);
        due("calm(11)", x.calm(11, false), BAD);
        calm("one", x, 0, 1, 1);
        calm("one", x, 3, 7, 10);
        calm("one", x, 10, 0, 1);
        x = of("H110H110X00079A00001A00001");
        calm("two", x, 3, 49, 100);
        calm("two", x, 5, 1, 4);
        calm("two", x, 0, 1, 1);
        calm("two with spans set aside", x, 1, 81, 100);
        // two tries of which the second goes to the other host while the first one works on
        x = of("H110H110H110H110A00001");
        calm("the first one alone counts", x, 2, 4, 5);
        x.turn(0);
        calm("then the second one", x, 2, 4, 5);
        x.turn(1);
        x.turn(2);
        x.turn(3);
        calm("all out", x, 0, 0, 1);
        calm("nothing asked", of("H110"), 7, 1, 1);
        calm("nothing at all", new SoftAsks(), 10, 1, 1);
        calm("no hosts", of("A00001"), 0, 0, 1);
    }

    private static void seeds() {
        SoftAsks x = of("H110A00001A00001");
        due("seed(5)", x.seed(5L), 0L);
        due("seed(lowest)", x.seed(Long.MIN_VALUE), 5L);
        due("seed(-1)", x.seed(-1L), Long.MIN_VALUE);
        due("drawn(0)", x.drawn(0), BAD);
        due("drawn(5)", x.drawn(5), BAD);
        due("drawn(-1)", x.drawn(-1), BAD);
        due("the seed stays by what is refused", x.seed(0L), -1L);
        // two asks are both done just if they come at hours that are not alike
        long state = 0L;
        for (int i = 0; i < 60; i++) {
            int m = 1 + i % 4;
            int want = 0;
            for (int k = 0; k < m; k++) {
                state = state * TIMES + PLUS;
                long first = (state >>> 33) % 41;
                state = state * TIMES + PLUS;
                want += first == (state >>> 33) % 41 ? 1 : 2;
            }
            due("drawn(" + m + ")", x.drawn(m), want);
        }
        due("the seed goes on", x.seed(3L), state);
        due("hours stay", x.ask(0, 0) + x.ask(1, 0), 0);
        due("what is done stays", x.total(0), 1);
        x = of("H110");
        due("drawn without asks", x.drawn(4), 0);
        due("the seed stays without asks", x.seed(0L), 0L);
        x = of("A00001A00001A00001");
        due("drawn without hosts", x.drawn(1), 0);
        due("three draws", x.seed(0L), ((0L * TIMES + PLUS) * TIMES + PLUS) * TIMES + PLUS);
    }

    private static void slots() {
        SoftAsks x = of("H110H110H110A00001");
        due("keep(-1)", x.keep(-1), UNKNOWN);
        due("keep(2)", x.keep(2), UNKNOWN);
        due("again(-1)", x.again(-1), UNKNOWN);
        due("again(2)", x.again(2), UNKNOWN);
        due("again(0)", x.again(0), LATE);
        x.turn(2);
        x.set(0, 3);
        x.set(1, 5);
        due("keep(1)", x.keep(1), 3);
        due("keeping is no doing", x.about(9), 3);
        due("again(0)", x.again(0), LATE);
        x.turn(0);
        x.set(2, 2);
        x.set(3, 3);
        x.set(4, 2);
        due("keep(0)", x.keep(0), 3);
        x.undo();
        due("again(1)", x.again(1), 3);
        abouts("gone on from 1", x, 3, 1, 0, 3, 5, 0, 1, 0, 4, 0);
        due("no doings then", x.undo(), LATE);
        due("again(0)", x.again(0), 3);
        abouts("gone on from 0", x, 3, 1, 0, 3, 5, 2, 3, 2, 5, 0);
        x.set(0, 1);
        due("again(0) a second time", x.again(0), 3);
        due("what is kept stays", x.about(3), 3);
        x.set(0, 1);
        x.keep(0);
        x.set(0, 4);
        x.again(0);
        due("kept anew", x.about(3), 1);
        due("keep on an empty day", new SoftAsks().keep(0), 0);
    }
}
