/** Works that are wasted are noted as all others; LEARNT and RATE are rounded at each step. */
public final class NotesTest {
    private static final int SHUT = 0, OPEN = 1, HALF = 2;

    public static void main(String[] args) {
        wastedWhileShut();
        wastedWhileHalf();
        wastedByAnAskThatIsDone();
        learntIsRounded();
        rateIsRounded();
        Edges.finish("notes");
    }

    /** The host's breaker behind each of the ticks, tick, state, tick, state. */
    private static void breaker(String when, SoftAsks x, int... ticksAndStates) {
        for (int i = 0; i + 1 < ticksAndStates.length; i += 2) {
            int t = ticksAndStates[i];
            Edges.due(when + ": stand(" + t + ", 0, 2)", x.stand(t, 0, 2), ticksAndStates[i + 1]);
        }
    }

    private static void rate(String when, SoftAsks x, int t, double want) {
        Edges.due(when + ": stand(" + t + ", 0, 4)", x.stand(t, 0, 4), Edges.bits(want));
    }

    /** Asks of limit 1 at a host of two ticks: each is past its limit when its work ends, at 2, 4, 6, .. */
    private static void wastedWhileShut() {
        Edges.sentence("If its ASK is not OPEN, the WORK is WASTED (GOOD or BAD). Then the BREAKER of the HOST NOTES it.");
        SoftAsks x = Edges.of("H120X00204X00812A00001A02001A04001A06001A08001A10001");
        String when = "BAD at 2, 4, GOOD at 6, BAD at 8, 10, 12, all wasted, by 1";
        Edges.counts(when, x, 0, 6, 5, 6, 1);
        breaker(when, x, 8, SHUT, 10, SHUT, 11, SHUT, 12, OPEN, 16, OPEN, 17, HALF);

        x = Edges.by("H120X00204A00001A02001A04001A06001", 2, 2, 0, 2);
        when = "BAD at 2, 4, GOOD at 6, 8, all wasted, by 2";
        Edges.counts(when, x, 0, 4, 2, 4, 1);
        breaker(when, x, 7, SHUT, 8, OPEN);

        x = Edges.by("H120X00208A00001A02001A04001A06001", 2, 2, 0, 2);
        when = "BAD at 2, 4, 6, 8, all wasted, by 2";
        breaker(when, x, 6, SHUT, 7, SHUT, 8, OPEN);

        x = Edges.by("H120X00204A00001A02001A04001A06001", 2, 2, 0, 3);
        when = "BAD at 2, 4, GOOD at 6, 8, all wasted, by 3";
        rate(when, x, 1, 0);
        rate(when, x, 2, 0.25);
        rate(when, x, 4, 0.4375);
        rate(when, x, 6, 0.328125);
        rate(when, x, 8, 0.24609375);
        Edges.due(when + ": host(0, 6)", x.host(0, 6), 0);

        x = Edges.by("H120X00206A00001A02001A04001A06001", 2, 2, 0, 3);
        when = "BAD at 2, 4, 6, all wasted, by 3";
        breaker(when, x, 5, SHUT, 6, OPEN);
        Edges.counts(when, x, 0, 3, 3, 3, 1);

        x = Edges.by("H120X00212A00001A02001A04001A06001A08001A10001", 2, 2, 0, 0);
        when = "BAD at 2, 4, .., 12, all wasted, by 0";
        Edges.counts(when, x, 0, 6, 6, 6, 0);
        breaker(when, x, 12, SHUT);
    }

    private static void wastedWhileHalf() {
        Edges.sentence("If it is HALF: GOOD, it is SHUT (a WORK that is WASTED, too)");
        SoftAsks x = Edges.of("H220X00010A00003A10001A00001");
        Edges.counts("GOOD at 12, wasted, while HALF", x, 0, 4, 3, 3, 1);
        breaker("GOOD at 12, wasted, while HALF", x, 3, SHUT, 4, OPEN, 8, OPEN, 9, HALF, 11, HALF, 12, SHUT, 79, SHUT);
        Edges.sentence("If it is HALF: .. BAD, it OPENS at T (a WORK that is WASTED, too)");
        x = Edges.of("H120X00030A00003A10001A20001");
        Edges.counts("BAD at 22, wasted, while HALF", x, 0, 4, 4, 3, 2);
        breaker("BAD at 22, wasted, while HALF", x, 12, OPEN, 16, OPEN, 17, HALF, 21, HALF, 22, OPEN, 26, OPEN, 27, HALF);
    }

    private static void wastedByAnAskThatIsDone() {
        Edges.sentence("If its ASK is not OPEN, the WORK is WASTED .. NOTES it: an ASK that another HOST has DONE");
        SoftAsks x = Edges.by("H190H110X00909A00030", 2, 2, 1, 3);
        Edges.ends("hedged at 5", x, 0, 2, 6, 1, 1, 1);
        Edges.counts("its first copy ends BAD at 9", x, 0, 1, 1, 1, 0);
        Edges.counts("the host by which it is done", x, 1, 1, 0, 0, 0);
        rate("its first copy ends BAD at 9", x, 8, 0);
        rate("its first copy ends BAD at 9", x, 9, 0.25);
        x = Edges.by("H190H110A00030", 2, 2, 1, 3);
        Edges.counts("its first copy ends GOOD at 9", x, 0, 1, 0, 1, 0);
        rate("its first copy ends GOOD at 9", x, 9, 0);
        Edges.due("a wasted work leaves LEARNT as it is", x.total(10), Edges.bits(4.5));
    }

    private static float learnt(int... d) {
        float learnt = 4f;
        for (int one : d) {
            float more = (float) one - learnt;
            float quarter = more * 0.25f;
            learnt = learnt + quarter;
        }
        return learnt;
    }

    private static double inDoubles(int... d) {
        double learnt = 4;
        for (int one : d) {
            learnt += (one - learnt) * 0.25;
        }
        return learnt;
    }

    private static double roundedOnce(int... d) {
        float learnt = 4f;
        for (int one : d) {
            learnt = (float) (learnt * 0.75 + one * 0.25);
        }
        return learnt;
    }

    private static void learntIsRounded() {
        Edges.sentence("Floats are as Java has them: each sum, difference, product is rounded to the nearest");
        int[] d = {5, 9, 12, 11, 6, 11, 8, 13, 18, 22, 27, 25};
        SoftAsks x = Edges.of("H155A01030A02030A04030A10030A20030A20030A28030A28030A28030A29030A29030A36030");
        for (int a = 0; a < d.length; a++) {
            Edges.due("T less HOUR of " + a, x.ask(a, 4) - x.ask(a, 0), d[a]);
        }
        Edges.due("LEARNT", x.total(10), Edges.bits(learnt(d)));
        Edges.due("LEARNT", x.total(10), 1100639924);
        Edges.so("doubles would tell", Edges.bits(inDoubles(d)) != x.total(10));

        int[] e = {1, 3, 1, 1, 1, 3, 1, 8, 3, 1, 3, 8};
        x = Edges.of("H130H110H180A00003A03003A08003A11003A00001A05001A03001A10001A10010A02001A04001A02010");
        Edges.due("LEARNT", x.total(10), Edges.bits(learnt(e)));
        Edges.due("LEARNT", x.total(10), 1082343972);
        Edges.so("one rounding a step would tell", Edges.bits(roundedOnce(e)) != x.total(10));
    }

    /** One worker, one tick, never idle: a work ends at each tick from 1 to 17; those at 1, 5, 6, 12, 16 are BAD. */
    private static void rateIsRounded() {
        Edges.sentence("RATE is a float .. each sum, difference, product is rounded to the nearest");
        SoftAsks x = Edges.by("H115X00101X00506X01212X01616A00030A00030A00030A01030A01030A01030"
            + "A05030A05030A10030A10030A10030A10030", 4, 8, 0, 3);
        String bad = "01000110000010001000";
        float rate = 0f;
        float once = 0f;
        for (int t = 1; t <= 17; t++) {
            float more = (bad.charAt(t) == '1' ? 1f : 0f) - rate;
            rate = rate + more * 0.25f;
            once = (float) (once * 0.75 + (bad.charAt(t) == '1' ? 0.25 : 0.0));
            rate("a work ends at each tick", x, t, rate);
            Edges.so("one rounding a step tells at 16 for the first time", (t < 16) == (rate == once) || t > 16);
        }
        Edges.due("stand(16, 0, 4)", x.stand(16, 0, 4), 1052168994);
        Edges.counts("a work ends at each tick", x, 0, 17, 5, 0, 0, 0);
    }
}
