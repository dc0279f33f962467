/** The edges of THE POLICY, HOSTS that are OUT, DOINGS and SLOTS: parts 1 and 3 of the terms, promises 6 to 9, 23, 24. */
public final class DoingsEdgesTest {
    private static final int UNKNOWN = Edges.UNKNOWN, BAD = Edges.BAD, LATE = Edges.LATE;
    private static final String[] NAMES = {"TRIES (1 .. 4; 2 at first)", "GAIN (0 .. 8; 2)", "HEDGE (0 .. 2; 0)",
        "BREAKER (0 .. 3; 1)", "SHED (0 .. 2; 0)"};
    private static final int[] LEAST = {1, 0, 0, 0, 0}, MOST = {4, 8, 2, 3, 2}, FIRST = {2, 2, 0, 1, 0};

    public static void main(String[] args) {
        abouts();
        for (int what = 0; what < 5; what++) {
            setting(what);
        }
        settings();
        turns();
        outAtFirst();
        fourteenDoings();
        doingsOfAllSorts();
        setAsItWas();
        undone();
        twoSlots();
        keptAndGoneOnFrom();
        noneKept();
        Edges.finish("doings edges");
    }

    private static void abouts() {
        Edges.sentence("HOSTS (what = 0), ASKS (1), SPANS (2), .. letters of THE TEXT (11). BAD.");
        SoftAsks x = Edges.of("H110H110H110X00000X00000A00001A00001A00001A00001");
        x.set(0, 4);
        x.set(1, 7);
        x.set(2, 2);
        x.set(3, 3);
        x.set(4, 1);
        x.turn(2);
        x.turn(0);
        x.see(0, 1);
        Edges.abouts("each", x, 0, 3, 4, 2, 4, 7, 2, 3, 1, 5, 7, 1, 48);
        Edges.due("about(-1)", x.about(-1), BAD);
        Edges.due("about(12)", x.about(12), BAD);
        Edges.due("about(lowest)", x.about(Edges.LOWEST), BAD);
        Edges.due("about(highest)", x.about(Edges.HIGHEST), BAD);
    }

    private static void setting(int what) {
        Edges.sentence(NAMES[what]);
        SoftAsks x = new SoftAsks();
        Edges.due("at first", x.about(3 + what), FIRST[what]);
        int[] none = {LEAST[what] - 1, MOST[what] + 1, Edges.LOWEST, Edges.HIGHEST, -9, 10, 256 + LEAST[what]};
        for (int v : none) {
            Edges.due("set(" + what + ", " + v + ")", x.set(what, v), BAD);
            Edges.due("it stays", x.about(3 + what), FIRST[what]);
        }
        Edges.due("DOINGS", x.about(9), 0);
        int was = FIRST[what];
        for (int v = LEAST[what]; v <= MOST[what]; v++) {
            Edges.due("set(" + what + ", " + v + ")", x.set(what, v), was);
            for (int i = 0; i < 5; i++) {
                Edges.due("about(" + (3 + i) + ")", x.about(3 + i), i == what ? v : FIRST[i]);
            }
            was = v;
        }
        Edges.due("DOINGS", x.about(9), MOST[what] - LEAST[what] + 1);
    }

    private static void settings() {
        Edges.sentence("TRIES (what = 0), GAIN (1), HEDGE (2), BREAKER (3), SHED (4) is v: what it was. BAD: what, v.");
        SoftAsks x = new SoftAsks();
        Edges.due("set(-1, 1)", x.set(-1, 1), BAD);
        Edges.due("set(5, 1)", x.set(5, 1), BAD);
        Edges.due("set(5, 0)", x.set(5, 0), BAD);
        Edges.due("set(lowest, 1)", x.set(Edges.LOWEST, 1), BAD);
        Edges.due("set(highest, 1)", x.set(Edges.HIGHEST, 1), BAD);
        Edges.due("set(-1, -1)", x.set(-1, -1), BAD);
        Edges.abouts("all stays", x, 3, 2, 2, 0, 1, 0, 0, 0);
        Edges.due("set(0, 1)", x.set(0, 1), 2);
        Edges.due("set(4, 1)", x.set(4, 1), 0);
    }

    private static void turns() {
        Edges.sentence("TURNED: 1 if the HOST is OUT then, 0. UNKNOWN.");
        Edges.due("no HOSTS", new SoftAsks().turn(0), UNKNOWN);
        for (int hosts = 1; hosts <= 4; hosts++) {
            SoftAsks x = Edges.of("H110".repeat(hosts));
            Edges.due("turn(" + hosts + ") of " + hosts, x.turn(hosts), UNKNOWN);
            Edges.due("turn(-1)", x.turn(-1), UNKNOWN);
            Edges.due("turn(lowest)", x.turn(Edges.LOWEST), UNKNOWN);
            Edges.due("turn(highest)", x.turn(Edges.HIGHEST), UNKNOWN);
            Edges.due("turn(32 + 0)", x.turn(32), UNKNOWN);
            Edges.due("OUT", x.about(8), 0);
            Edges.due("DOINGS", x.about(9), 0);
            for (int h = 0; h < hosts; h++) {
                Edges.due("turn(" + h + ")", x.turn(h), 1);
                Edges.due("OUT", x.about(8), (2 << h) - 1);
            }
            Edges.due("turn(" + (hosts - 1) + ") again", x.turn(hosts - 1), 0);
            Edges.due("OUT", x.about(8), (1 << hosts - 1) - 1);
        }
    }

    private static void outAtFirst() {
        Edges.sentence("HOSTS may be OUT (none at first)");
        SoftAsks x = Edges.of("H110H110H110H110");
        Edges.due("none at first", x.about(8), 0);
        for (int h = 3; h >= 0; h--) {
            x.turn(h);
        }
        Edges.due("all", x.about(8), 15);
        x.day();
        Edges.due("none at first of a day", x.about(8), 0);
    }

    private static void fourteenDoings() {
        Edges.sentence("DOINGS .. are a row (14 at most; when it is full, the first one is forgotten)");
        // GAIN is 2, then 3, 4, 5, 6, 7, 8, 7, 6 .. : each doing leaves another one
        int[] gains = {3, 4, 5, 6, 7, 8, 7, 6, 5, 4, 3, 2, 1, 0, 8, 7};
        for (int told = 1; told <= gains.length; told++) {
            SoftAsks x = new SoftAsks();
            for (int i = 0; i < told; i++) {
                x.set(1, gains[i]);
                Edges.due("DOINGS when " + (i + 1) + " are told", x.about(9), Math.min(i + 1, 14));
            }
            int kept = Math.min(told, 14);
            for (int left = kept - 1; left >= 0; left--) {
                Edges.due("undo() of " + told, x.undo(), left);
                int first = told - kept + left;
                Edges.due("GAIN as it was", x.about(4), first == 0 ? 2 : gains[first - 1]);
            }
            Edges.due("undo(), none is left of " + told, x.undo(), LATE);
            Edges.due("what is forgotten stays done", x.about(4), told <= 14 ? 2 : gains[told - 15]);
        }
        // a turn that is forgotten stays done
        SoftAsks x = Edges.of("H110H110");
        x.turn(1);
        for (int i = 0; i < 14; i++) {
            x.turn(0);
        }
        for (int i = 13; i >= 0; i--) {
            Edges.due("undo()", x.undo(), i);
        }
        Edges.due("the first one stays OUT", x.about(8), 2);
    }

    private static int[] standing(SoftAsks x) {
        int[] all = new int[6];
        for (int i = 0; i < 6; i++) {
            all[i] = x.about(3 + i);
        }
        return all;
    }

    private static void doingsOfAllSorts() {
        Edges.sentence("(14 at most; when it is full, the first one is forgotten); the last one can be undone");
        // a host is turned, or a setting is told: what, v
        int[][] doings = {{-1, 0}, {0, 3}, {1, 5}, {2, 1}, {-1, 1}, {3, 2}, {4, 1}, {0, 4}, {-1, 0}, {1, 8}, {4, 2}, {2, 2},
            {3, 0}, {-1, 2}, {1, 0}, {0, 1}, {-1, 1}, {3, 3}};
        for (int told = 1; told <= doings.length; told++) {
            SoftAsks x = Edges.of("H110H110H110");
            int[][] stood = new int[told][];
            for (int i = 0; i < told; i++) {
                stood[i] = standing(x);
                int answer = doings[i][0] < 0 ? x.turn(doings[i][1]) : x.set(doings[i][0], doings[i][1]);
                Edges.so("doing " + i + " is done", answer >= 0);
            }
            for (int i = told - 1; i >= Math.max(0, told - 14); i--) {
                x.undo();
                Edges.abouts("doing " + i + " of " + told + " undone", x, 3, stood[i]);
            }
            Edges.due("none is left of " + told, x.undo(), LATE);
        }
    }

    private static void setAsItWas() {
        Edges.sentence("SET: one of THE POLICY is told anew, as it was, too");
        for (int what = 0; what < 5; what++) {
            SoftAsks x = new SoftAsks();
            Edges.due("set as it was", x.set(what, FIRST[what]), FIRST[what]);
            Edges.due("a DOING", x.about(9), 1);
            Edges.due("undo()", x.undo(), 0);
            Edges.due("as it was", x.about(3 + what), FIRST[what]);
        }
    }

    private static void undone() {
        Edges.sentence("The last DOING is undone: how many are left. LATE: there is none.");
        SoftAsks x = Edges.of("H110H110");
        Edges.due("none", x.undo(), LATE);
        x.set(0, 4);
        Edges.due("one", x.undo(), 0);
        Edges.due("none again", x.undo(), LATE);
        Edges.due("TRIES", x.about(3), 2);
        x.turn(1);
        x.set(2, 1);
        x.turn(1);
        x.turn(0);
        Edges.due("undo() of OUT", x.undo(), 3);
        Edges.due("OUT", x.about(8), 0);
        Edges.due("undo() of OUT no more", x.undo(), 2);
        Edges.due("OUT", x.about(8), 2);
        Edges.due("undo() of HEDGE", x.undo(), 1);
        Edges.due("HEDGE", x.about(5), 0);
        Edges.due("OUT", x.about(8), 2);
        Edges.due("undo() of OUT", x.undo(), 0);
        Edges.due("OUT", x.about(8), 0);
        // what is undone is no DOING: it can not be undone itself
        Edges.due("none", x.undo(), LATE);
        Edges.abouts("as at first", x, 3, 2, 2, 0, 1, 0, 0, 0);
    }

    private static void twoSlots() {
        Edges.sentence("SLOTS 0 .. 1 keep .. They are kept: how many HOSTS. UNKNOWN.");
        SoftAsks x = Edges.of("H110H110H110H110");
        int[] none = {-1, 2, Edges.LOWEST, Edges.HIGHEST};
        for (int slot : none) {
            Edges.due("keep(" + slot + ")", x.keep(slot), UNKNOWN);
            Edges.due("again(" + slot + ")", x.again(slot), UNKNOWN);
        }
        Edges.due("keep(0)", x.keep(0), 4);
        Edges.due("keep(1)", x.keep(1), 4);
        Edges.due("again(0)", x.again(0), 4);
        Edges.due("again(1)", x.again(1), 4);
        Edges.due("without HOSTS", new SoftAsks().keep(0), 0);
        x = new SoftAsks();
        x.keep(1);
        Edges.due("without HOSTS", x.again(1), 0);
    }

    private static void keptAndGoneOnFrom() {
        Edges.sentence("keep THE POLICY, HOSTS that are OUT (no DOINGS when one goes on)");
        SoftAsks x = Edges.of("H110H110H110");
        x.set(0, 1);
        x.set(1, 8);
        x.set(2, 2);
        x.set(3, 3);
        x.set(4, 2);
        x.turn(2);
        x.keep(0);
        Edges.due("keeping is no DOING, and forgets none", x.about(9), 6);
        x.set(0, 4);
        x.set(1, 0);
        x.set(2, 1);
        x.set(3, 0);
        x.set(4, 1);
        x.turn(0);
        x.keep(1);
        Edges.due("again(0)", x.again(0), 3);
        Edges.abouts("from 0", x, 3, 1, 8, 2, 3, 2, 4, 0);
        Edges.due("no DOINGS", x.undo(), LATE);
        Edges.due("again(1)", x.again(1), 3);
        Edges.abouts("from 1", x, 3, 4, 0, 1, 0, 1, 5, 0);
        // what is done then does not reach what is kept
        x.turn(1);
        x.set(0, 3);
        Edges.due("DOINGS", x.about(9), 2);
        Edges.due("again(1), a second time", x.again(1), 3);
        Edges.abouts("from 1", x, 3, 4, 0, 1, 0, 1, 5, 0);
        // kept anew: the other slot stays
        x.set(0, 2);
        x.keep(1);
        x.again(0);
        Edges.abouts("from 0", x, 3, 1, 8, 2, 3, 2, 4, 0);
        x.again(1);
        Edges.abouts("from 1, kept anew", x, 3, 2, 0, 1, 0, 1, 5, 0);
    }

    private static void noneKept() {
        Edges.sentence("They are as they were kept: how many HOSTS. UNKNOWN; LATE: none were kept.");
        for (int slot = 0; slot < 2; slot++) {
            SoftAsks x = Edges.of("H110");
            Edges.due("none kept", x.again(slot), LATE);
            x.keep(1 - slot);
            Edges.due("kept in the other one", x.again(slot), LATE);
            x.keep(slot);
            Edges.due("kept", x.again(slot), 1);
            x.day();
            Edges.due("gone with a new day", x.again(slot), LATE);
        }
    }
}
