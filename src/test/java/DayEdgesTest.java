import java.math.BigDecimal;
import java.math.RoundingMode;

/** The edges of THE DAY, run: parts 2 and 4 of the terms, promises 10 to 13. Answers are worked out by hand. */
public final class DayEdgesTest {
    private static final int NONE = Edges.NONE;
    private static final int DONE = 2, FAILED = 3, EXPIRED = 4;
    private static final int SHUT = 0, OPEN = 1, HALF = 2;

    public static void main(String[] args) {
        ticksOfTheDay();
        spansBothCounted();
        budgetAhead();
        learntAhead();
        roundedToTheNearest();
        openTillItEnds();
        oneCopyAtMost();
        sixTicksOpen();
        fewestCopies();
        notOut();
        halfLetsOne();
        lost();
        moreThanRoom();
        freeWorkers();
        shedLast();
        shedByRank();
        shedByLimit();
        endsInOrder();
        doneAndLearnt();
        wasted();
        limits();
        goneWhenExpired();
        goneFromAllHosts();
        comes();
        budgetAtMost();
        againByTries();
        againByBudget();
        againOnceATick();
        hedgesOlder();
        hedgesOneCopy();
        hedgesOnce();
        hedgesByBudget();
        hedgesAsItsTurnComes();
        hedgesJustOlder();
        begins();
        notesByNone();
        notesInARow();
        notesOfEight();
        notesByRate();
        notesWhileOpen();
        notesWhileHalf();
        forgotten();
        sentThoughGone();
        standsBehindBegins();
        standsBehindTheLastTick();
        ofAll();
        Edges.finish("day edges");
    }

    private static void ticksOfTheDay() {
        Edges.sentence("THE DAY is TICKS 0 .. 79");
        SoftAsks x = Edges.of("H110A00001A40001");
        Edges.stands("TICK 0 is run", x, 0, 0, 0, 1);
        Edges.stands("TICK 40 is run", x, 40, 0, 0, 1);
        Edges.stands("TICK 79", x, 79, 0, 0, 0, SHUT, NONE, 0);
        Edges.due("ahead of it there is none", x.stand(-1, 0, 0), Edges.BAD);
        Edges.due("behind it there is none", x.stand(80, 0, 0), Edges.BAD);
        // one worker: works begin at 33, 42, 51, 60 (its ask is past its limit at 63) and, the last that can be, at 69
        x = Edges.of("H195A33030A33030A33030A33030A40030");
        Edges.ends("begun at 51", x, 2, DONE, 60, 0, 1, 0);
        Edges.ends("begun at 60", x, 3, EXPIRED, 63, NONE, 1, 0);
        Edges.ends("begun at 69", x, 4, EXPIRED, 70, NONE, 1, 0);
        Edges.stands("waits till 69", x, 68, 0, 1, 1, SHUT, 4);
        Edges.stands("begun at 69", x, 69, 0, 0, 1, SHUT, NONE);
        Edges.stands("worked at till 78", x, 77, 0, 0, 1);
        Edges.stands("ended at 78", x, 78, 0, 0, 0);
        Edges.counts("the whole DAY", x, 0, 5, 0, 2, 0, 0);
    }

    private static void spansBothCounted() {
        Edges.sentence("from a TICK to one (.. both counted), in which it is SPOILT .. BAD, if a SPAN of the HOST has T");
        // a work ends at 4, its ask is past its limit
        String[] spans = {"X00404", "X00410", "X00004", "X00079", "X00003", "X00579", "X00000", "X00505", "X07979"};
        int[] bad = {1, 1, 1, 1, 0, 0, 0, 0, 0};
        for (int i = 0; i < spans.length; i++) {
            Edges.counts(spans[i], Edges.of("H140" + spans[i] + "A00001"), 0, 1, bad[i], 1, 0, 0);
        }
        String late = "H195A33030A33030A33030A33030A40030";
        Edges.due("to 78, a work ends at 78", Edges.of(late + "X07178").host(0, 4), 1);
        Edges.due("to 77, a work ends at 78", Edges.of(late + "X07077").host(0, 4), 0);
        Edges.due("from 78, a work ends at 78", Edges.of(late + "X07879").host(0, 4), 1);
        Edges.due("from 79, a work ends at 78", Edges.of(late + "X07979").host(0, 4), 0);
        // of that host, and by each of its spans
        SoftAsks x = Edges.of("H140H140X10404A00001A00001");
        Edges.counts("another's SPAN", x, 0, 1, 0, 1);
        Edges.counts("its own SPAN", x, 1, 1, 1, 1);
        Edges.counts("the second SPAN", Edges.of("H140X00003X00404A00001"), 0, 1, 1, 1);
        Edges.counts("no SPAN", Edges.of("H140A00001"), 0, 1, 0, 1);
    }

    private static void budgetAhead() {
        Edges.sentence("BUDGET is 8 ahead of it");
        Edges.due("without ASKS", new SoftAsks().total(9), 8);
        SoftAsks x = Edges.by("A00030A00030", 2, 0);
        Edges.ends("the first TRY more is paid", x, 0, FAILED, 1, NONE, 2, 0);
        Edges.ends("a second one is not", x, 1, FAILED, 0, NONE, 1, 0);
        Edges.due("BUDGET in the end", x.total(9), 0);
    }

    private static void learntAhead() {
        Edges.sentence("LEARNT a float, 4");
        Edges.due("without ASKS", new SoftAsks().total(10), Edges.bits(4));
        Edges.due("the bits of 4", Edges.bits(4), 1082130432);
        Edges.due("DONE after 4", Edges.of("H140A00030").total(10), Edges.bits(4));
        Edges.due("DONE after 5", Edges.of("H150A00030").total(10), Edges.bits(4.25));
        Edges.due("DONE after 3", Edges.of("H130A00030").total(10), Edges.bits(3.75));
        Edges.due("not DONE", Edges.of("H150A00004").total(10), Edges.bits(4));
    }

    /** The nearest value of 24 bits, worked out without floats. */
    private static BigDecimal rounded(BigDecimal exact, RoundingMode mode) {
        if (exact.signum() == 0) {
            return exact;
        }
        BigDecimal two = BigDecimal.valueOf(2), least = BigDecimal.valueOf(1 << 23);
        BigDecimal n = exact, unit = BigDecimal.ONE;
        while (n.abs().compareTo(least) < 0) {
            n = n.multiply(two);
            unit = unit.divide(two);
        }
        return n.setScale(0, mode).multiply(unit);
    }

    private static int rested(double first, int[] becomes, RoundingMode mode) {
        BigDecimal value = new BigDecimal(first);
        for (int v : becomes) {
            BigDecimal more = rounded(BigDecimal.valueOf(v).subtract(value), mode);
            value = rounded(value.add(more.divide(BigDecimal.valueOf(4))), mode);
        }
        return Edges.bits(value.floatValue());
    }

    private static void roundings(String what, int got, double first, int[] becomes, RoundingMode other) {
        int even = rested(first, becomes, RoundingMode.HALF_EVEN);
        Edges.due(what, got, even);
        Edges.so(what + " is another by " + other, even != rested(first, becomes, other));
    }

    private static void roundedToTheNearest() {
        Edges.sentence("each sum, difference, product is rounded to the nearest, of two as near to the even one");
        // three workers, nine ticks, an ask each three ticks: each is done after nine
        StringBuilder text = new StringBuilder("H390");
        int[] nines = new int[12];
        for (int i = 0; i < 12; i++) {
            text.append(String.format("A%02d030", 3 * i));
            nines[i] = 9;
        }
        roundings("LEARNT of nines", Edges.of(text.toString()).total(10), 4, nines, RoundingMode.HALF_UP);
        double exact = 4;
        for (int v : nines) {
            exact += (v - exact) / 4;
        }
        Edges.so("it is another one if it is rounded at the end", Edges.bits(exact)
            != rested(4, nines, RoundingMode.HALF_EVEN));
        // one worker, three ticks, an ask each two ticks: each waits one tick longer than the one ahead of it
        text = new StringBuilder("H135");
        int[] growing = new int[12];
        for (int i = 0; i < 12; i++) {
            text.append(String.format("A%02d030", 2 * i));
            growing[i] = 3 + i;
        }
        roundings("LEARNT of 3 .. 14", Edges.of(text.toString()).total(10), 4, growing, RoundingMode.HALF_DOWN);
        // notes at 1 .. 14, bad at 1, 7, 8 and 11: those of 1 and 11 are tried again, those of 7 and 8 are past their limit
        SoftAsks x = Edges.by("H110X00101X00708X01111A00030A02030A03030A04030A05030A06001A07001A08030A09030A10030"
            + "A12030A13030", 2, 2, 0, 3);
        int[] notes = {1, 0, 0, 0, 0, 0, 1, 1, 0, 0, 1, 0, 0, 0};
        roundings("RATE of four bad ones", x.stand(14, 0, 4), 0, notes, RoundingMode.HALF_UP);
        x = Edges.by("H110X00101X01111A00030A02030A03030A04030A05030A06030A07030A08030A09030A10030A12030A13030",
            2, 2, 0, 3);
        notes = new int[] {1, 0, 0, 0, 0, 0, 0, 0, 0, 0, 1, 0, 0, 0};
        roundings("RATE of two bad ones", x.stand(14, 0, 4), 0, notes, RoundingMode.HALF_DOWN);
    }

    private static void openTillItEnds() {
        Edges.sentence("An ASK is OPEN from its HOUR till it ENDS: DONE (2), FAILED (3), EXPIRED (4)");
        SoftAsks x = Edges.of("H120A05030");
        Edges.stands("ahead of its HOUR", x, 4, 0, 0, 0);
        Edges.stands("at its HOUR", x, 5, 0, 0, 1);
        Edges.ends("DONE", x, 0, DONE, 7, 0, 1, 0);
        Edges.ends("FAILED", Edges.by("A05030", 1), 0, FAILED, 5, NONE, 1, 0);
        Edges.ends("EXPIRED", Edges.of("H120A05001"), 0, EXPIRED, 6, NONE, 1, 0);
        Edges.totals("one of each", Edges.by("H120A05030A05030A10001", 1), 1, 1, 1);
    }

    private static void oneCopyAtMost() {
        Edges.sentence("a HOST has one COPY of an ASK at most");
        SoftAsks x = Edges.by("H195A00030", 2, 2, 1);
        Edges.stands("worked at: no second one comes", x, 5, 0, 0, 1);
        Edges.totals("worked at: the second one is LOST", x, 1, 0, 0, 2, 0, 1, 1, 0, 0, 2);
        // ask 1 waits; its hedge is lost as well
        x = Edges.by("H195A00030A00030", 2, 8, 1);
        Edges.stands("waiting: no second one comes", x, 5, 0, 1, 1, SHUT, 1);
        Edges.due("waiting: the second one is LOST", x.total(6), 2);
        // ask 0 has ended, ask 2 waits for the first host: that one has more copies, the other one has ask 1 itself
        x = Edges.by("H193H193A00003A00030A00030", 2, 0, 1);
        Edges.stands("ahead of the hedge", x, 4, 0, 1, 1, SHUT, 2);
        Edges.stands("the one with more copies has none of it", x, 5, 0, 2, 1, SHUT, 2);
        Edges.stands("the one with fewer has it", x, 5, 1, 0, 1);
        Edges.due("not LOST", x.total(6), 0);
    }

    private static void sixTicksOpen() {
        Edges.sentence("when it OPENS at a TICK, it is OPEN for that one and the five that come next, then HALF");
        SoftAsks x = Edges.by("H310X00101A00001A00001A00001A06030A07030", 1);
        Edges.due("SHUT ahead of it", x.stand(0, 0, 2), SHUT);
        for (int t = 1; t <= 5; t++) {
            Edges.due("OPEN at TICK " + (t + 1), x.stand(t, 0, 2), OPEN);
        }
        Edges.due("HALF at TICK 7", x.stand(6, 0, 2), HALF);
        Edges.ends("LOST at TICK 6", x, 3, FAILED, 6, NONE, 1, 0);
        Edges.ends("let come at TICK 7", x, 4, DONE, 8, 0, 1, 0);
        Edges.due("LOST", x.total(6), 1);
        // at the very tick at which it opens nothing is let come
        x = Edges.by("H310X00101A00001A00001A00001A01030", 1);
        Edges.ends("LOST at TICK 1", x, 3, FAILED, 1, NONE, 1, 0);
        // it stays half as long as nothing ends
        x = Edges.by("H310X00101A00001A00001A00001", 1);
        Edges.due("HALF to the end", x.stand(79, 0, 2), HALF);
        Edges.sentence("The BREAKER of a HOST is SHUT ahead of THE DAY");
        Edges.due("at TICK 1, nothing having come", Edges.of("H110A40001").stand(0, 0, 2), SHUT);
    }

    private static void fewestCopies() {
        Edges.sentence("the one that has the fewest COPIES, waiting and WORKED at, of like ones the least");
        SoftAsks x = Edges.of("H195H295A00030A00030A00030A00030A00030A01030");
        Edges.stands("in turn", x, 0, 0, 2, 1, SHUT, 2);
        Edges.stands("in turn", x, 0, 1, 0, 2, SHUT, NONE);
        Edges.stands("two that wait and a work are more than two works", x, 1, 1, 1, 2, SHUT, 5);
        // host 0 has three workers: works at 0 and 1; ask 3 finds two works there, and one at host 1
        x = Edges.of("H395H195A00030A00030A01030A02030A03030");
        Edges.stands("of like ones the least", x, 1, 0, 0, 2);
        Edges.stands("one work is fewer than two", x, 2, 1, 1, 1, SHUT, 3);
        Edges.stands("two works are no more than a work and one that waits", x, 3, 0, 0, 3);
        x = Edges.of("H190H190H190H190A00030A00030A00030A00030");
        for (int h = 0; h < 4; h++) {
            Edges.due("each to the next one", x.ask(h, 5), h);
        }
        Edges.sentence("COPIES that are WORKED at stay when their ASK ENDS, and count wherever COPIES .. are counted");
        x = Edges.of("H390H390A00001A01030");
        Edges.due("a work of an ASK that has ended counts", x.ask(1, 5), 1);
        x = Edges.of("H310H390A00001A01030");
        Edges.due("a work that has ended counts no more", x.ask(1, 5), 0);
    }

    private static void notOut() {
        Edges.sentence("to a HOST that is not OUT");
        SoftAsks x = Edges.of("H110H110A00030");
        Edges.due("none is OUT", x.ask(0, 5), 0);
        x.turn(0);
        Edges.due("0 is OUT", x.ask(0, 5), 1);
        Edges.counts("0 is OUT", x, 0, 0, 0, 0, 0, 0);
        x.turn(0);
        Edges.due("0 is OUT no more", x.ask(0, 5), 0);
        x.turn(1);
        x.turn(0);
        Edges.ends("all are OUT", x, 0, FAILED, 1, NONE, 2, 0);
    }

    private static void halfLetsOne() {
        Edges.sentence("LETS it (its BREAKER is SHUT; or HALF, and it has no COPIES at all)");
        // opens at 1, half at 7
        SoftAsks x = Edges.by("H315X00101A00001A00001A00001A07030A07030A08030A08030", 1);
        Edges.ends("HALF, without COPIES", x, 3, DONE, 8, 0, 1, 0);
        Edges.ends("HALF, with one that waits", x, 4, FAILED, 7, NONE, 1, 0);
        Edges.ends("SHUT at 8", x, 5, DONE, 9, 0, 1, 0);
        Edges.ends("SHUT at 8, with one that waits", x, 6, DONE, 9, 0, 1, 0);
        // opens at 9; the one that waited is begun at 9 and worked at till 18; half at 15
        x = Edges.by("H391X00909A00030A00030A00030A01030A15030", 1);
        Edges.stands("HALF, with a work", x, 14, 0, 0, 1, HALF);
        Edges.ends("HALF, with a work", x, 4, FAILED, 15, NONE, 1, 0);
        // the same for an ask that has ended: its work still counts
        x = Edges.by("H391X00909A00030A00030A00030A01010A17030", 1);
        Edges.ends("its ASK has ended", x, 3, EXPIRED, 11, NONE, 1, 0);
        Edges.ends("HALF, with a work of an ASK that has ended", x, 4, FAILED, 17, NONE, 1, 0);
        x = Edges.by("H391X00909A00030A00030A00030A01010A18030", 1);
        Edges.ends("when that has ended", x, 4, DONE, 27, 0, 1, 0);
        // another host is not asked about its breaker
        x = Edges.by("H310H115X00101A00001A00001A00001A00001A00001A02030", 1);
        Edges.due("the first one is OPEN", x.stand(1, 0, 2), OPEN);
        Edges.due("the other one is SHUT", x.stand(1, 1, 2), SHUT);
        Edges.due("the other one takes it", x.ask(5, 5), 1);
    }

    private static void lost() {
        Edges.sentence("It is LOST, if there is none.");
        Edges.due("no HOST", Edges.by("A00030", 1).total(6), 1);
        Edges.due("one HOST", Edges.by("H110A00030", 1).total(6), 0);
        SoftAsks x = Edges.by("H110H110A00030", 1);
        x.turn(0);
        Edges.due("one is OUT", x.total(6), 0);
        x.turn(1);
        Edges.due("both are OUT", x.total(6), 1);
        Edges.totals("LOST ones are SENT, not SHED", x, 0, 1, 0, 1, 0, 0, 1, 0, 0, 10);
    }

    private static void moreThanRoom() {
        Edges.sentence("If more COPIES wait there then than ROOM and WORKERS that are free, one of these is SHED");
        int[][] cases = {{1, 0}, {1, 1}, {1, 5}, {2, 0}, {2, 3}, {3, 0}, {3, 2}, {3, 5}};
        for (int[] c : cases) {
            String host = "H" + c[0] + "9" + c[1];
            SoftAsks x = Edges.by(host + "A00030".repeat(c[0] + c[1]), 1);
            Edges.due(host + ", just as many", x.total(7), 0);
            Edges.stands(host + ", just as many", x, 0, 0, c[1], c[0]);
            x = Edges.by(host + "A00030".repeat(c[0] + c[1] + 1), 1);
            Edges.due(host + ", one more", x.total(7), 1);
            Edges.due(host + ", one more", x.host(0, 7), 1);
            Edges.stands(host + ", one more", x, 0, 0, c[1], c[0]);
        }
        SoftAsks x = Edges.by("H190H190A00030A00030A00030", 1);
        Edges.due("SHED by the first", x.host(0, 7), 1);
        Edges.due("not by the second", x.host(1, 7), 0);
    }

    private static void freeWorkers() {
        Edges.sentence("WORKERS that are free when a COPY is SENT: WORKERS less WORKS that did not END yet");
        Edges.due("a work that goes on", Edges.by("H120A00030A01030", 1).total(7), 1);
        Edges.due("a work that ENDED at that TICK", Edges.by("H110A00030A01030", 1).total(7), 0);
        Edges.due("of two workers one is free", Edges.by("H220A00030A01030", 1).total(7), 0);
        Edges.due("of two workers none is free", Edges.by("H220A00030A01030A01030", 1).total(7), 1);
        Edges.due("a work of an ASK that has ended goes on", Edges.by("H190A00001A02030", 1).total(7), 1);
        Edges.due("room for one, worked at", Edges.by("H191A00030A01030", 1).total(7), 0);
        Edges.due("room for one, worked at, two come", Edges.by("H191A00030A01030A01030", 1).total(7), 1);
    }

    /** A work at 0; at 1 three come where there is room for two: which of 1, 2, 3 is put out. */
    private static int shedOf(int shed, String first, String second, String third) {
        SoftAsks x = Edges.by("H192A00030" + "A" + first + "A" + second + "A" + third, 1, 2, 0, 1, shed);
        int which = 0;
        for (int a = 1; a <= 3; a++) {
            boolean out = x.ask(a, 3) == FAILED;
            which = which * (out ? 10 : 1) + (out ? a : 0);
        }
        Edges.due("SHED in all", x.total(7), 1);
        Edges.due("the one that is worked at stays", x.ask(0, 3), DONE);
        return which;
    }

    private static void shedLast() {
        Edges.sentence("by SHED 0 the one that came last");
        Edges.due("the ranks rise", shedOf(0, "01030", "01130", "01330"), 3);
        Edges.due("the ranks fall", shedOf(0, "01330", "01130", "01030"), 3);
        Edges.due("the limits rise", shedOf(0, "01019", "01020", "01030"), 3);
    }

    private static void shedByRank() {
        Edges.sentence("by 1 the one whose ASK has the least RANK, of like ones the one that came last");
        Edges.due("1 2 3", shedOf(1, "01130", "01230", "01330"), 1);
        Edges.due("2 1 3", shedOf(1, "01230", "01130", "01330"), 2);
        Edges.due("2 3 1", shedOf(1, "01230", "01330", "01130"), 3);
        Edges.due("0 3 3", shedOf(1, "01030", "01330", "01330"), 1);
        Edges.due("1 1 2", shedOf(1, "01130", "01130", "01230"), 2);
        Edges.due("1 2 1", shedOf(1, "01130", "01230", "01130"), 3);
        Edges.due("2 1 1", shedOf(1, "01230", "01130", "01130"), 3);
        Edges.due("0 0 0", shedOf(1, "01030", "01030", "01030"), 3);
        Edges.due("3 3 3", shedOf(1, "01330", "01330", "01330"), 3);
        // last is the one that came last, whatever its number: ask 3 comes ahead of ask 2
        Edges.due("the number counts for nothing", shedOf(1, "01030", "03030", "02330"), 2);
        Edges.due("nor when both are there", shedOf(1, "04330", "03030", "02030"), 2);
    }

    private static void shedByLimit() {
        Edges.sentence("by 2 the one for whose ASK HOUR and LIMIT are least together, of like ones the one that came last");
        Edges.due("21 22 23", shedOf(2, "01321", "01022", "01023"), 1);
        Edges.due("22 21 23", shedOf(2, "01022", "01321", "01023"), 2);
        Edges.due("22 23 21", shedOf(2, "01022", "01023", "01321"), 3);
        Edges.due("21 21 22", shedOf(2, "01021", "01021", "01022"), 2);
        Edges.due("21 22 21", shedOf(2, "01021", "01022", "01021"), 3);
        Edges.due("21 21 21", shedOf(2, "01021", "01021", "01021"), 3);
        Edges.due("1 and 22, 2 and 23, 3 and 21", shedOf(2, "01022", "02023", "03021"), 1);
        Edges.due("1 and 24, 2 and 22, 3 and 23", shedOf(2, "01024", "02022", "03023"), 2);
        Edges.due("1 and 24, 2 and 23, 3 and 21", shedOf(2, "01024", "02023", "03021"), 3);
        Edges.due("23 each, together", shedOf(2, "01022", "02021", "03020"), 3);
        Edges.due("24 24 25, together", shedOf(2, "01023", "02022", "03022"), 2);
    }

    private static void endsInOrder() {
        Edges.sentence("of each HOST, 0 first, WORKS that END at T, as they were begun");
        // host 1 gets the hedge at 5, for four ticks: both end at 9
        SoftAsks x = Edges.by("H190H140A00030", 2, 2, 1);
        Edges.ends("HOST 0 first", x, 0, DONE, 9, 0, 1, 1);
        Edges.counts("HOST 0 first", x, 0, 1, 0, 0);
        Edges.counts("then HOST 1, WASTED", x, 1, 1, 0, 1);
        // ask 1 is at host 1 from 0; its hedge at 5 is at host 0: both end at 9
        x = Edges.by("H140H190A00003A00030", 2, 2, 1);
        Edges.ends("HOST 0 first, begun later", x, 1, DONE, 9, 0, 1, 1);
        Edges.counts("then HOST 1, WASTED", x, 1, 1, 0, 1);
        // two workers are free at 2 for those of hours 1 and 2: both end at 4, after three and after two
        float learnt = 4;
        for (int d : new int[] {2, 2, 3, 2}) {
            learnt = learnt + 0.25f * (d - learnt);
        }
        Edges.due("as they were begun", Edges.of("H225A00030A00030A01030A02030").total(10), Edges.bits(learnt));
        Edges.due("whatever their numbers", Edges.of("H225A00030A00030A02030A01030").total(10), Edges.bits(learnt));
    }

    private static void doneAndLearnt() {
        Edges.sentence("If its ASK is OPEN and it is GOOD, the ASK is DONE (at T, by that HOST), its COPIES that wait are gone");
        // ask 0's hedge waits at host 1 from 5 on, ask 1's at host 0
        SoftAsks x = Edges.by("H195H195A00030A00030", 2, 8, 1);
        Edges.stands("the hedge waits", x, 8, 1, 1, 1, SHUT, 0);
        Edges.stands("gone", x, 9, 1, 0, 0, SHUT, NONE);
        Edges.due("nothing is WASTED", x.total(8), 0);
        Edges.due("DONE", x.total(0), 2);
        // the hedge is worked at: it stays, and is wasted
        x = Edges.by("H195H195A00030", 2, 8, 1);
        Edges.stands("worked at", x, 9, 1, 0, 1);
        Edges.due("WASTED", x.total(8), 1);
        // bad: the ask stays open, its other copy is worked at on
        x = Edges.by("H195H195X00909A00030", 2, 8, 1);
        Edges.ends("BAD, then GOOD", x, 0, DONE, 14, 1, 1, 1);
        Edges.sentence("LEARNT becomes LEARNT and a quarter of what d is more than it (d: T less HOUR)");
        Edges.due("by the one that is DONE", x.total(10), Edges.bits(4 + (14 - 4) / 4.0));
        Edges.due("its HOUR counts", Edges.of("H150A07030").total(10), Edges.bits(4.25));
        Edges.due("less than it", Edges.of("H110A00030").total(10), Edges.bits(3.25));
    }

    private static void wasted() {
        Edges.sentence("If its ASK is not OPEN, the WORK is WASTED (GOOD or BAD)");
        Edges.counts("OPEN, GOOD", Edges.of("H130A00003"), 0, 1, 0, 0);
        Edges.counts("not OPEN, GOOD", Edges.of("H130A00002"), 0, 1, 0, 1);
        Edges.counts("not OPEN, BAD", Edges.of("H130X00303A00002"), 0, 1, 1, 1);
        Edges.counts("OPEN, BAD", Edges.by("H130X00303A00003", 1), 0, 1, 1, 0);
        Edges.due("of all", Edges.of("H130H130X00303A00002A00002").total(8), 2);
        Edges.ends("not DONE by it", Edges.of("H130A00002"), 0, EXPIRED, 2, NONE, 1, 0);
    }

    private static void limits() {
        Edges.sentence("ASKS that are OPEN and for which T is HOUR plus LIMIT, or more, are EXPIRED at T");
        Edges.ends("ends a TICK ahead of it", Edges.of("H120A00003"), 0, DONE, 2, 0, 1, 0);
        Edges.ends("ends at it", Edges.of("H130A00003"), 0, DONE, 3, 0, 1, 0);
        Edges.ends("ends a TICK behind it", Edges.of("H140A00003"), 0, EXPIRED, 3, NONE, 1, 0);
        Edges.ends("LIMIT 1, TICKS 1", Edges.of("H110A40001"), 0, DONE, 41, 0, 1, 0);
        Edges.ends("LIMIT 1, TICKS 2", Edges.of("H120A40001"), 0, EXPIRED, 41, NONE, 1, 0);
        // six ticks each: the fifth one ends at 30
        Edges.ends("LIMIT 30", Edges.of("H165" + "A00030".repeat(5)), 4, DONE, 30, 0, 1, 0);
        Edges.ends("LIMIT 29", Edges.of("H165" + "A00030".repeat(4) + "A00029"), 4, EXPIRED, 29, NONE, 1, 0);
        // ahead of AGAIN
        Edges.ends("bad at its LIMIT", Edges.of("H130X00303A00003"), 0, EXPIRED, 3, NONE, 1, 0);
        Edges.ends("bad a TICK ahead of it", Edges.of("H130X00303A00004"), 0, EXPIRED, 4, NONE, 2, 0);
        // one that has failed or is done is not past its limit later
        Edges.ends("FAILED stays", Edges.by("A00005", 1), 0, FAILED, 0, NONE, 1, 0);
        Edges.ends("DONE stays", Edges.of("H110A00005"), 0, DONE, 1, 0, 1, 0);
    }

    private static void goneWhenExpired() {
        Edges.sentence("their COPIES that wait are gone");
        SoftAsks x = Edges.by("H191A00030A00005A05030", 1);
        Edges.stands("waits", x, 4, 0, 1, 1, SHUT, 1);
        Edges.stands("another one waits", x, 5, 0, 1, 1, SHUT, 2);
        Edges.due("there was room for it", x.total(7), 0);
        Edges.due("a TICK later there was none", Edges.by("H191A00030A00006A05030", 1).total(7), 1);
        Edges.counts("gone ones are not worked at", x, 0, 2, 0, 0);
        // the one that is worked at stays
        Edges.stands("worked at", Edges.of("H190A00005"), 5, 0, 0, 1);
    }

    private static void goneFromAllHosts() {
        Edges.sentence("ASKS that are OPEN and for which T is HOUR plus LIMIT .. are EXPIRED at T; their COPIES that wait are gone");
        // all are hedged at 5: ask 2 waits at both hosts, at host 0 first, at host 1 behind ask 0
        SoftAsks x = Edges.by("H195H195A00030A00030A00008", 2, 8, 1);
        Edges.stands("ask 2 and ask 1 wait", x, 7, 0, 2, 1, SHUT, 2);
        Edges.stands("ask 0 and ask 2 wait", x, 7, 1, 2, 1, SHUT, 0);
        Edges.stands("ask 2 is gone", x, 8, 0, 1, 1, SHUT, 1);
        Edges.stands("ask 2 is gone here, too", x, 8, 1, 1, 1, SHUT, 0);
        Edges.ends("ask 2", x, 2, EXPIRED, 8, NONE, 1, 1);
        Edges.due("works that end at host 0", x.host(0, 3), 1);
        Edges.due("works that end at host 1", x.host(1, 3), 1);
    }

    private static void comes() {
        Edges.sentence("each ASK whose HOUR is T, 0 first, is OPEN .. a COPY is SENT: that is its first TRY");
        Edges.ends("at 0", Edges.of("H110A00030"), 0, DONE, 1, 0, 1, 0);
        Edges.ends("at 40", Edges.of("H110A40030"), 0, DONE, 41, 0, 1, 0);
        SoftAsks x = Edges.by("H115A00030A00030A00030", 1);
        for (int a = 0; a < 3; a++) {
            Edges.ends("0 first", x, a, DONE, a + 1, 0, 1, 0);
        }
        Edges.sentence("BUDGET is GAIN more");
        for (int gain = 0; gain <= 8; gain++) {
            Edges.due("GAIN " + gain, Edges.by("H110A00030A01030", 1, gain).total(9), 8 + 2 * gain);
        }
    }

    private static void budgetAtMost() {
        Edges.sentence("(80 at most)");
        Edges.due("eight ASKS", Edges.by("A00001".repeat(8), 1, 8).total(9), 72);
        Edges.due("nine ASKS", Edges.by("A00001".repeat(9), 1, 8).total(9), 80);
        Edges.due("ten ASKS", Edges.by("A00001".repeat(10), 1, 8).total(9), 80);
        Edges.due("7 each, ten ASKS", Edges.by("A00001".repeat(10), 1, 7).total(9), 78);
        Edges.due("7 each, eleven ASKS", Edges.by("A00001".repeat(11), 1, 7).total(9), 80);
        Edges.due("6 each, twelve ASKS", Edges.by("A00001".repeat(12), 1, 6).total(9), 80);
        Edges.due("5 each, twelve ASKS", Edges.by("A00001".repeat(12), 1, 5).total(9), 68);
        // what is more than 80 is gone: ten tries more can be paid
        SoftAsks x = Edges.by("A00030".repeat(12), 2, 8);
        Edges.due("by AGAIN", x.total(4), 10);
        Edges.due("the tenth", x.ask(9, 6), 2);
        Edges.due("the eleventh", x.ask(10, 6), 1);
    }

    private static void againByTries() {
        Edges.sentence("if it has had fewer TRIES than TRIES");
        // no hosts: an ask a tick brings 8 each; the first one is tried at 0, again at 0, 1 and 2
        String text = "A00030A01030A02030A03030";
        Edges.ends("TRIES 1", Edges.by(text, 1, 8), 0, FAILED, 0, NONE, 1, 0);
        Edges.ends("TRIES 2", Edges.by(text, 2, 8), 0, FAILED, 1, NONE, 2, 0);
        Edges.ends("TRIES 3", Edges.by(text, 3, 8), 0, FAILED, 2, NONE, 3, 0);
        SoftAsks x = Edges.by(text, 4, 8);
        Edges.ends("TRIES 4", x, 0, FAILED, 3, NONE, 4, 0);
        Edges.ends("what it did not take is there for the next one", x, 3, FAILED, 4, NONE, 2, 0);
        Edges.due("by AGAIN", x.total(4), 5);
        // host 0 is bad at 1, 2 and 3, good at 4; the other ask is done at 1 and leaves its 8
        text = "H110H110X00103A00030A00030";
        Edges.ends("three bad ones, TRIES 3", Edges.by(text, 3, 8, 0, 0), 0, FAILED, 3, NONE, 3, 0);
        Edges.ends("three bad ones, TRIES 4", Edges.by(text, 4, 8, 0, 0), 0, DONE, 4, 0, 4, 0);
        Edges.sentence("TRIES of an ASK (ask(.., 6)) are the first one and those by AGAIN, not HEDGES");
        Edges.ends("HEDGED", Edges.by("H190H190A00030", 2, 2, 1), 0, DONE, 9, 0, 1, 1);
        // bad at 9 at host 0, hedged at 5 at host 1, bad at 14: a second try though it was hedged
        Edges.ends("HEDGED, then AGAIN", Edges.by("H190H190X00909X11414A00030", 2, 8, 1), 0, DONE, 23, 0, 2, 1);
    }

    private static void againByBudget() {
        Edges.sentence("and BUDGET is 8 or more, BUDGET is 8 less");
        SoftAsks x = Edges.by("A00030", 4, 7);
        Edges.ends("15, then 7", x, 0, FAILED, 1, NONE, 2, 0);
        Edges.due("7 are left", x.total(9), 7);
        x = Edges.by("A00030", 4, 8);
        Edges.ends("16, then 8, then 0", x, 0, FAILED, 2, NONE, 3, 0);
        Edges.due("none is left", x.total(9), 0);
        x = Edges.by("A00030", 1, 8);
        Edges.due("a first TRY costs nothing", x.total(9), 16);
    }

    private static void againOnceATick() {
        Edges.sentence("AGAIN looks at each ASK once a TICK, 0 first, as it is when its turn comes");
        Edges.ends("one TRY more at each TICK", Edges.by("A00030A00001A00001", 4, 8), 0, FAILED, 2, NONE, 3, 0);
        // rank 3 is bad at 3; rank 1 comes at 3 and takes the worker; rank 0, that waited, is put out by rank 3
        SoftAsks x = Edges.by("H131X00303A00330A01030A03130", 2, 8, 0, 1, 1);
        Edges.ends("put out ahead of its turn: tried at that TICK", x, 1, FAILED, 4, NONE, 2, 0);
        Edges.ends("the one that is tried again", x, 0, DONE, 9, 0, 2, 0);
        Edges.sentence("one that loses its last COPY behind its turn (as another COPY is SENT) waits for the next TICK");
        x = Edges.by("H131X00303A01030A00330A03130", 2, 8, 0, 1, 1);
        Edges.ends("put out behind its turn: tried at the next TICK", x, 0, FAILED, 5, NONE, 2, 0);
        Edges.ends("the one that is tried again", x, 1, DONE, 9, 0, 2, 0);
        Edges.sentence("each ASK that is OPEN and has no COPIES, 0 first");
        // both are bad at 1; the budget is 8 and 2 times 2, for one of them
        x = Edges.by("H210X00101A00030A00030");
        Edges.ends("0 first", x, 0, DONE, 2, 0, 2, 0);
        Edges.ends("then 1", x, 1, FAILED, 1, NONE, 1, 0);
    }

    private static void hedgesOlder() {
        Edges.sentence("is older (T less HOUR) than HEDGE times LEARNT");
        SoftAsks x = Edges.by("H190H190A02030", 2, 2, 1);
        Edges.stands("4 is not older than 4", x, 6, 1, 0, 0);
        Edges.stands("5 is older than 4", x, 7, 1, 0, 1);
        // all is bad at 9, so 4 stays; ask 2 waits from 0 on at host 0
        x = Edges.by("H195H195X00909X10909A00030A00030A00030", 1, 2, 2);
        Edges.stands("8 is not older than twice 4", x, 8, 1, 0, 1);
        Edges.stands("9 is older than twice 4", x, 9, 1, 0, 1);
        Edges.due("HEDGES", x.total(5), 1);
        Edges.due("ask 2 is HEDGED", x.ask(2, 7), 1);
        // ask 0 is done after nine: 5 and a quarter; its hedge of 5 is worked at till 14
        x = Edges.by("H190H190A00030A09030", 2, 8, 1);
        Edges.stands("5 is not older than 5 and a quarter", x, 14, 1, 0, 0);
        Edges.stands("6 is older than 5 and a quarter", x, 15, 1, 0, 1);
        // ask 0 is done after seven: 4 and three quarters; its hedge of 5 is worked at till 12
        x = Edges.by("H170H170A00030A07030", 2, 8, 1);
        Edges.stands("5 is older than 4 and three quarters", x, 12, 1, 0, 1);
        Edges.stands("its work goes on", x, 18, 1, 0, 1);
        Edges.stands("till 19", x, 19, 1, 0, 0);
        Edges.sentence("if HEDGE is more than 0");
        Edges.due("HEDGE 0", Edges.by("H190H190A00030", 2, 8, 0).total(5), 0);
        Edges.due("HEDGE 1", Edges.by("H190H190A00030", 2, 8, 1).total(5), 1);
        Edges.due("HEDGE 2: 9 ticks, DONE ahead of it", Edges.by("H190H190A00030", 2, 8, 2).total(5), 0);
    }

    private static void hedgesOneCopy() {
        Edges.sentence("each ASK that is OPEN, has just one COPY .. counts waiting ones and those WORKED at");
        Edges.due("one that is WORKED at", Edges.by("H190H190A00030", 2, 2, 1).ask(0, 7), 1);
        Edges.due("one that waits", Edges.by("H195A00001A00030", 2, 2, 1).ask(1, 7), 1);
        // bad at 5; ask 1 takes the worker at 5; the copy by AGAIN is put out: none is left at HEDGES
        SoftAsks x = Edges.by("H150X00505A00030A05030", 2, 8, 1);
        Edges.ends("none", x, 0, FAILED, 6, NONE, 2, 0);
        Edges.due("HEDGES", x.total(5), 0);
        // not open: past its limit at 5
        Edges.due("not OPEN any more", Edges.by("H190H190A00005", 2, 8, 1).total(5), 0);
        Edges.due("OPEN at 5", Edges.by("H190H190A00006", 2, 8, 1).total(5), 1);
    }

    private static void hedgesOnce() {
        Edges.sentence("was not HEDGED");
        // hedged at 5 at host 1; bad at 9 at host 0: one copy is left, and it is old
        SoftAsks x = Edges.by("H190H190X00909A00030", 2, 8, 1);
        Edges.ends("HEDGED once", x, 0, DONE, 14, 1, 1, 1);
        Edges.due("HEDGES", x.total(5), 1);
        Edges.due("BUDGET", x.total(9), 8);
        // a hedge that is lost or shed is not sent anew
        x = Edges.by("H190A00030", 2, 8, 1);
        Edges.totals("LOST", x, 1, 0, 0, 2, 0, 1, 1, 0, 0, 8);
        x = Edges.by("H190H190A00030A00030", 2, 8, 1);
        Edges.totals("SHED", x, 2, 0, 0, 4, 0, 2, 0, 2, 0, 8);
    }

    private static void hedgesByBudget() {
        Edges.sentence("0 first, if BUDGET is 8 or more: BUDGET is 8 less, a COPY is SENT, it is HEDGED");
        SoftAsks x = Edges.by("H290H290A00030A00030", 2, 4, 1);
        Edges.due("16: both", x.ask(0, 7) * 10 + x.ask(1, 7), 11);
        Edges.due("none is left", x.total(9), 0);
        x = Edges.by("H290H290A00030A00030", 2, 3, 1);
        Edges.due("14: the first one", x.ask(0, 7) * 10 + x.ask(1, 7), 10);
        Edges.due("6 are left", x.total(9), 6);
        x = Edges.by("H390H390A00030A00030A00030", 2, 5, 1);
        Edges.due("23: two", x.ask(0, 7) * 100 + x.ask(1, 7) * 10 + x.ask(2, 7), 110);
        Edges.due("7 are left", x.total(9), 7);
        // with the one that comes at 7 there are 12: the third is hedged then
        x = Edges.by("H395H395A00030A00030A00030A07030", 2, 5, 1);
        Edges.due("later on, the third", x.ask(2, 7), 1);
        Edges.due("HEDGES", x.total(5), 3);
        Edges.due("4 are left", x.total(9), 4);
        x = Edges.by("H190H190A00030", 2, 0, 1);
        Edges.due("8: HEDGED", x.ask(0, 7), 1);
        Edges.due("none is left", x.total(9), 0);
    }

    private static void hedgesAsItsTurnComes() {
        Edges.sentence("each ASK that .. has just one COPY .. 0 first (as it is when its turn comes)");
        // bad at 8 at host 1, where ask 1 is sent again; the hedge of ask 0 puts it out there, ahead of its turn
        SoftAsks x = Edges.by("H160H150X10010A03110A03010", 2, 8, 1, 1, 1);
        Edges.stands("its copy is put out by a hedge", x, 8, 1, 0, 1, SHUT);
        Edges.ends("ask 0", x, 0, DONE, 9, 0, 1, 1);
        Edges.ends("ask 1 has none at its turn: not HEDGED, FAILED at the next TICK", x, 1, FAILED, 9, NONE, 2, 0);
        Edges.totals("one hedge", x, 1, 1, 0, 4, 1, 1, 0, 1, 1, 8);
    }

    private static void hedgesJustOlder() {
        Edges.sentence("is older (T less HOUR) than HEDGE times LEARNT");
        // done after 1, 2, 2, 3, 1, 1, 2, from 4 on: LEARNT is 1.99981689453125 at 7
        SoftAsks x = Edges.by("H112A01002A00001A05001A05002A00002A01003A05010A04001", 2, 2, 1);
        Edges.stands("2 is older than a bit less than 2", x, 7, 0, 0, 1);
        Edges.ends("HEDGED at 7", x, 6, DONE, 8, 0, 1, 1);
        Edges.due("HEDGES", x.total(5), 1);
        Edges.due("LOST, as there is no other host", x.total(6), 1);
    }

    private static void begins() {
        Edges.sentence("as long as a WORKER is free and a COPY waits, the first one is taken from its ROW and WORKED at");
        for (int workers = 1; workers <= 3; workers++) {
            SoftAsks x = Edges.of("H" + workers + "95A00030A00030A00030A00030");
            Edges.stands(workers + " WORKERS", x, 0, 0, 4 - workers, workers, SHUT, workers);
        }
        Edges.stands("fewer COPIES than WORKERS", Edges.of("H395A00030A00030"), 0, 0, 0, 2, SHUT, NONE);
        SoftAsks x = Edges.of("H115A00030A00030");
        Edges.stands("one ends, one begins", x, 1, 0, 0, 1, SHUT, NONE);
        Edges.sentence("it ENDS at T and TICKS");
        for (int ticks = 1; ticks <= 9; ticks++) {
            Edges.due("TICKS " + ticks, Edges.of("H1" + ticks + "0A03030").ask(0, 4), 3 + ticks);
        }
    }

    /** A host that notes one work a tick from tick 1 on, by the letters: B bad, G good, a dot none at all. */
    private static SoftAsks noting(String notes, int breaker) {
        StringBuilder spans = new StringBuilder(), asks = new StringBuilder();
        for (int i = 0; i < notes.length(); i++) {
            if (notes.charAt(i) != '.') {
                asks.append(String.format("A%02d001", i));
            }
            if (notes.charAt(i) == 'B' && (i == 0 || notes.charAt(i - 1) != 'B')) {
                int to = i;
                while (to + 1 < notes.length() && notes.charAt(to + 1) == 'B') {
                    to++;
                }
                spans.append(String.format("X0%02d%02d", i + 1, to + 1));
            }
        }
        return Edges.by("H110" + spans + asks, 1, 2, 0, breaker);
    }

    /** It opens by the last note and by none ahead of it. */
    private static void opens(String notes, int breaker) {
        SoftAsks x = noting(notes, breaker);
        int n = notes.length();
        Edges.due(notes + " by " + breaker + ": ahead of the last", x.stand(n - 1, 0, 2), SHUT);
        Edges.due(notes + " by " + breaker + ": at the last", x.stand(n, 0, 2), OPEN);
        Edges.due(notes + " by " + breaker + ": it OPENED", x.host(0, 6), 1);
    }

    private static void staysShut(String notes, int breaker) {
        SoftAsks x = noting(notes, breaker);
        Edges.due(notes + " by " + breaker + ": it stays shut", x.host(0, 6), 0);
        Edges.due(notes + " by " + breaker + ": it is shut", x.stand(79, 0, 2), SHUT);
    }

    private static void notesByNone() {
        Edges.sentence("If it is SHUT, by BREAKER 0 nothing");
        staysShut("BBBBBBBBBBBB", 0);
        staysShut("GGGG", 0);
    }

    private static void notesInARow() {
        Edges.sentence("by 1 it OPENS, when this is the third BAD one in a row that it NOTES");
        staysShut("B", 1);
        staysShut("BB", 1);
        opens("BBB", 1);
        opens("GBBB", 1);
        staysShut("BBGBB", 1);
        staysShut("BGBGBGB", 1);
        opens("BBGBBB", 1);
        opens("BB..B", 1);
        opens("B.....B.....B", 1);
    }

    private static void notesOfEight() {
        Edges.sentence("by 2 when of the last eight that it NOTED (or of all, if they are fewer, but no fewer than four) half or "
            + "more are BAD");
        staysShut("B", 2);
        staysShut("BB", 2);
        staysShut("BBB", 2);
        opens("BBBB", 2);
        opens("BBBG", 2);
        opens("BGGB", 2);
        opens("GGBB", 2);
        staysShut("BGGG", 2);
        staysShut("GGGB", 2);
        staysShut("GGGGB", 2);
        staysShut("BGGGB", 2);
        opens("BGGGBB", 2);
        staysShut("GGGGBBB", 2);
        opens("GGGGBBBB", 2);
        staysShut("GGGGGBBB", 2);
        opens("GGGGGBBBB", 2);
        // the first one is among the last eight, then no more
        opens("BGGGGBBB", 2);
        staysShut("BGGGGBBG", 2);
        staysShut("BGGGGBBGB", 2);
        staysShut("BGGGGGBBB", 2);
        opens("BGGGGGBBBB", 2);
        staysShut("GGGGGGGGGBBB", 2);
        opens("GGGGGGGGBBBB", 2);
        Edges.sentence("BREAKER 2: the one that is just NOTED counts among the last eight; what was forgotten does not");
        // opens at 4, half at 10, shut at 11 by the one of hour 10; then three bad ones are fewer than four
        staysOpenedOnce("BBBB......GBBB", 2);
        opensTwice("BBBB......GBBBB", 2);
        opensTwice("BBBB......GBBBG", 2);
        staysOpenedOnce("BBBB......GGGGB", 2);
    }

    private static void staysOpenedOnce(String notes, int breaker) {
        SoftAsks x = noting(notes, breaker);
        Edges.due(notes + " by " + breaker + ": OPENED once", x.host(0, 6), 1);
        Edges.due(notes + " by " + breaker + ": SHUT at the end", x.stand(notes.length(), 0, 2), SHUT);
    }

    private static void opensTwice(String notes, int breaker) {
        SoftAsks x = noting(notes, breaker);
        Edges.due(notes + " by " + breaker + ": OPENED twice", x.host(0, 6), 2);
        Edges.due(notes + " by " + breaker + ": SHUT ahead of the last", x.stand(notes.length() - 1, 0, 2), SHUT);
        Edges.due(notes + " by " + breaker + ": OPEN at the last", x.stand(notes.length(), 0, 2), OPEN);
    }

    private static void notesByRate() {
        Edges.sentence("by 3 when RATE is more than a half");
        staysShut("B", 3);
        staysShut("BB", 3);
        opens("BBB", 3);
        opens("GGGGBBB", 3);
        // as near to a half as notes come from below and from above
        SoftAsks x = noting("BGGGBB", 3);
        Edges.due("below a half", x.stand(6, 0, 4), Edges.bits(0.496826171875));
        staysShut("BGGGBB", 3);
        opens("BGBGBGGGGGBB", 3);
        opens("BGGBGGGGBB", 3);
        Edges.sentence("RATE is a float, 0 at first, and becomes RATE and a quarter of what x is more than it");
        x = noting("BGB", 3);
        Edges.due("at first", x.stand(0, 0, 4), 0);
        Edges.due("a BAD one", x.stand(1, 0, 4), Edges.bits(0.25));
        Edges.due("a GOOD one", x.stand(2, 0, 4), Edges.bits(0.1875));
        Edges.due("a BAD one", x.stand(3, 0, 4), Edges.bits(0.390625));
        Edges.due("only GOOD ones", noting("GGG", 3).stand(3, 0, 4), 0);
        Edges.sentence("RATE changes by BREAKER 3 alone (by the others it stays 0)");
        for (int breaker = 0; breaker <= 2; breaker++) {
            Edges.due("by " + breaker, noting("BB", breaker).stand(2, 0, 4), 0);
        }
    }

    private static void notesWhileOpen() {
        Edges.sentence("NOTES: if the BREAKER is OPEN, nothing");
        // three are bad at 1, it opens; the fourth is begun at 1 and bad at 2
        SoftAsks x = Edges.by("H311X00102A00030A00030A00030A00030", 1);
        Edges.counts("a BAD one more", x, 0, 4, 4, 0, 1, 0);
        Edges.due("OPEN at TICK 6", x.stand(5, 0, 2), OPEN);
        Edges.due("HALF at TICK 7, as if it were not", x.stand(6, 0, 2), HALF);
        // as many are bad while it is open as would open it
        x = Edges.by("H313X00102A00030A00030A00030A00030A00030A00030", 1);
        Edges.counts("three BAD ones more, by 1", x, 0, 6, 6, 0, 1, 0);
        Edges.due("HALF at TICK 7", x.stand(6, 0, 2), HALF);
        x = Edges.by("H315X00104A00030A00030A00030A01030A01030A01030A01030A01030A01030", 1, 2, 0, 2);
        Edges.due("by 2 it is SHUT with three", x.stand(1, 0, 2), SHUT);
        Edges.counts("by 2 it OPENS at the fourth", x, 0, 9, 9, 0, 1, 0);
        Edges.due("OPEN at TICK 7", x.stand(6, 0, 2), OPEN);
        Edges.due("HALF at TICK 8", x.stand(7, 0, 2), HALF);
        x = Edges.by("H313X00102A00030A00030A00030A00030A00030A00030", 1, 2, 0, 3);
        Edges.counts("three BAD ones more, by 3", x, 0, 6, 6, 0, 1, 0);
        Edges.due("RATE stays 0", x.stand(2, 0, 4), 0);
        // the fourth is good at 2: it is open none the less
        x = Edges.by("H311X00101A00030A00030A00030A00030", 1);
        Edges.due("DONE while OPEN", x.ask(3, 3), DONE);
        Edges.due("OPEN though it was GOOD", x.stand(2, 0, 2), OPEN);
        // three workers, five ticks: begun at 5, bad at 10, the last tick at which it is open
        x = Edges.by("H353X00510A00030A00030A00030A00030", 1, 2, 0, 1);
        Edges.due("at the last of its TICKS", x.stand(9, 0, 2), OPEN);
        Edges.due("a BAD one at that TICK", x.stand(10, 0, 2), HALF);
        Edges.counts("nothing", x, 0, 4, 4, 0, 1, 0);
        // six ticks: begun at 6, bad at 12, the first at which it is half
        x = Edges.by("H363X00612A00030A00030A00030A00030", 1, 2, 0, 1);
        Edges.due("a BAD one at the first TICK of HALF", x.stand(12, 0, 2), OPEN);
        Edges.counts("it OPENS", x, 0, 4, 4, 0, 2, 0);
    }

    private static void notesWhileHalf() {
        Edges.sentence("If it is HALF: GOOD, it is SHUT; BAD, it OPENS at T.");
        for (int breaker = 1; breaker <= 3; breaker++) {
            String bad = breaker == 2 ? "BBBB......" : "BBB......";
            int n = bad.length();
            SoftAsks x = noting(bad + "G", breaker);
            Edges.due("HALF by " + breaker, x.stand(n, 0, 2), HALF);
            Edges.due("GOOD by " + breaker, x.stand(n + 1, 0, 2), SHUT);
            Edges.due("OPENED by " + breaker, x.host(0, 6), 1);
            x = noting(bad + "B", breaker);
            Edges.due("HALF by " + breaker, x.stand(n, 0, 2), HALF);
            for (int t = n + 1; t <= n + 5; t++) {
                Edges.due("BAD by " + breaker + ", at TICK " + t, x.stand(t, 0, 2), OPEN);
            }
            Edges.due("HALF again by " + breaker, x.stand(n + 6, 0, 2), HALF);
            Edges.due("OPENED twice by " + breaker, x.host(0, 6), 2);
            Edges.due("RATE by " + breaker, x.stand(n + 1, 0, 4), 0);
        }
    }

    private static void forgotten() {
        Edges.sentence("When it OPENS, or is SHUT from HALF, all that it NOTED is forgotten (RATE is 0).");
        staysOpenedOnce("BBB......GBB", 1);
        opensTwice("BBB......GBBB", 1);
        staysOpenedOnce("BBB......GBB", 3);
        opensTwice("BBB......GBBB", 3);
        SoftAsks x = noting("BBB......GB", 3);
        Edges.due("RATE ahead of it", x.stand(2, 0, 4), Edges.bits(0.4375));
        Edges.due("RATE when it OPENS", x.stand(3, 0, 4), 0);
        Edges.due("RATE when it is HALF", x.stand(9, 0, 4), 0);
        Edges.due("RATE when it is SHUT", x.stand(10, 0, 4), 0);
        Edges.due("RATE of a BAD one then", x.stand(11, 0, 4), Edges.bits(0.25));
    }

    private static void sentThoughGone() {
        Edges.sentence("A COPY that is SHED, or LOST, was SENT.");
        Edges.totals("SHED", Edges.by("H190A00030A00030", 1), 1, 1, 0, 2, 0, 0, 0, 1, 0, 12);
        Edges.totals("LOST", Edges.by("A00030A00030", 1), 0, 2, 0, 2, 0, 0, 2, 0, 0, 12);
        Edges.totals("LOST by AGAIN", Edges.by("A00030", 2), 0, 1, 0, 2, 1, 0, 2, 0, 0, 2);
    }

    private static void standsBehindTheLastTick() {
        Edges.sentence("its BREAKER (2: .. as it will be at the next TICK)");
        // ask 0 is done at 47; ask 1 waits till then, and is bad at 56, 65, 74
        SoftAsks x = Edges.by("H191X05674A38030A40030", 3, 8);
        Edges.stands("behind 73", x, 73, 0, 0, 1, SHUT);
        Edges.stands("it opens at 74", x, 74, 0, 0, 0, OPEN);
        Edges.stands("79 is the sixth tick", x, 78, 0, 0, 0, OPEN);
        Edges.stands("behind the last one it is half open", x, 79, 0, 0, 0, HALF);
    }

    private static void ofAll() {
        Edges.sentence("Of all THE DAY how many ASKS are DONE (what = 0), FAILED (1), EXPIRED (2), COPIES that were SENT ..");
        Edges.totals("no HOSTS, no ASKS", new SoftAsks(), 0, 0, 0, 0, 0, 0, 0, 0, 0, 8, Edges.bits(4), Edges.BAD);
        // the fifth is put out by host 0; host 3's is past its limit
        SoftAsks x = Edges.by("H190H190H190H190A00030A00030A00030A00008A00030", 1);
        float learnt = 4;
        for (int i = 0; i < 3; i++) {
            learnt = learnt + 0.25f * (9 - learnt);
        }
        Edges.totals("four HOSTS", x, 3, 1, 1, 5, 0, 0, 0, 1, 1, 18, Edges.bits(learnt));
        x.turn(0);
        x.turn(1);
        x.turn(2);
        // host 3 has the first, the others are put out
        Edges.totals("the fourth HOST", x, 1, 4, 0, 5, 0, 0, 0, 4, 0, 18, Edges.bits(5.25));
        Edges.counts("the fourth HOST", x, 3, 1, 0, 0, 0, 4);
        // twelve asks, each at its limit, in a host of three workers at a time
        x = Edges.by("H315" + "A00001".repeat(12), 1);
        Edges.totals("twelve ASKS", x, 3, 4, 5, 12, 0, 0, 0, 4, 0, 32);
    }

    private static void standsBehindBegins() {
        Edges.sentence("stand() is asked behind BEGINS of TICK t");
        SoftAsks x = Edges.of("H195A00030A00030");
        Edges.stands("at 0 one is begun", x, 0, 0, 1, 1, SHUT, 1, 0);
        Edges.stands("at 8", x, 8, 0, 1, 1, SHUT, 1, 0);
        Edges.stands("at 9 the next one is begun", x, 9, 0, 0, 1, SHUT, NONE, 0);
        Edges.stands("at 17", x, 17, 0, 0, 1, SHUT, NONE, 0);
        Edges.stands("at 18 all has ended", x, 18, 0, 0, 0, SHUT, NONE, 0);
        Edges.sentence("ask(.., 3 .. 7), host(), total() are asked of the whole DAY");
        Edges.due("behind stand(0, ..)", x.stand(0, 0, 1), 1);
        Edges.due("ask(1, 4)", x.ask(1, 4), 18);
        Edges.due("host(0, 3)", x.host(0, 3), 2);
        Edges.due("total(0)", x.total(0), 2);
    }
}
