import java.util.ArrayList;
import java.util.List;

/** What each call changes, and that it leaves all else as it was; and that objects share nothing. */
public final class ChangesTest {
    /** What an object holds; each is read by calls of its own on an object of its own. */
    private enum Held {
        TEXT, DAY, POLICY, OUT, DOINGS, SEEN, SEED, SLOT_0, SLOT_1
    }

    private static final String DAY = "H110H221H132X00104X10306A00005A00109A02210A03130";
    /** Not at its end: a figure behind it makes it another day. */
    private static final String TEXT = "H11";

    public static void main(String[] args) {
        asked();
        textAndDay();
        doings();
        seenAndSeed();
        slots();
        twoObjects();
        Edges.finish("changes");
    }

    /** All that can be held is held, and no two parts of it are alike. */
    private static SoftAsks scene() {
        SoftAsks x = Edges.of(DAY);
        Edges.said(x, "set(0, 3) turn(1) keep(0) set(1, 5) turn(1) turn(0) set(4, 2) keep(1)");
        Edges.said(x, "set(0, 4) set(2, 1) set(3, 2) set(1, 7) turn(2) see(0, 0) see(2, 1) seed(-77)");
        return Edges.write(x, TEXT);
    }

    private static List<Long> read(SoftAsks x, Held held) {
        List<Long> a = new ArrayList<>();
        switch (held) {
            case TEXT:
                theText(x, a);
                break;
            case DAY:
                theDay(x, a);
                break;
            case POLICY:
                note(x, a, "about(3)", "about(4)", "about(5)", "about(6)", "about(7)");
                break;
            case OUT:
                note(x, a, "about(8)");
                a.add(x.share(0, false) == Edges.LATE ? 1L : 0L);
                a.add(x.share(1, false) == Edges.LATE ? 1L : 0L);
                break;
            case DOINGS:
                whatIsUndone(x, a);
                break;
            case SEEN:
                whatIsSeen(x, a);
                break;
            case SEED:
                note(x, a, "seed(5)", "seed(0)");
                break;
            case SLOT_0:
                note(x, a, "again(0)", "about(3)", "about(4)", "about(5)", "about(6)", "about(7)", "about(8)", "about(9)");
                break;
            default:
                note(x, a, "again(1)", "about(3)", "about(4)", "about(5)", "about(6)", "about(7)", "about(8)", "about(9)");
        }
        return a;
    }

    private static void note(SoftAsks x, List<Long> a, String... calls) {
        for (String call : calls) {
            a.add(Edges.said(x, call));
        }
    }

    /** The text is gone on with so that it is a day; then its letters are seen by what that day is. */
    private static void theText(SoftAsks x, List<Long> a) {
        note(x, a, "about(11)", "fault()");
        if (x.fault() != Edges.NONE) {
            note(x, a, "write('0')", "fault()");
        }
        note(x, a, "write('A')", "fault()", "write('1')", "write('2')", "write('0')", "write('0')", "write('9')");
        if (x.day() >= 0) {
            theDay(x, a);
        }
        note(x, a, "fault()", "wipe()", "fault()");
    }

    /** The spans are seen by what is spoilt when a policy of its own is set. */
    private static void theDay(SoftAsks x, List<Long> a) {
        note(x, a, "about(0)", "about(1)", "about(2)");
        for (int what = 0; what <= 2; what++) {
            for (int i = 0; i < 4; i++) {
                note(x, a, "host(" + i + ", " + what + ")", "ask(" + i + ", " + what + ")");
            }
        }
        Edges.said(x, "set(0, 4) set(1, 8) set(2, 0) set(3, 0) set(4, 0)");
        for (int h = 0; h < 4; h++) {
            if (((x.about(8) >> h) & 1) == 1) {
                x.turn(h);
            }
        }
        note(x, a, "host(0, 3)", "host(0, 4)", "host(1, 3)", "host(1, 4)", "total(0)", "total(3)", "total(10)");
    }

    /** What can be undone, and what stands then. */
    private static void whatIsUndone(SoftAsks x, List<Long> a) {
        a.add((long) x.about(9));
        for (int i = 0; i < 15; i++) {
            int left = x.undo();
            a.add((long) left);
            if (left < 0) {
                return;
            }
            note(x, a, "about(3)", "about(4)", "about(5)", "about(6)", "about(7)", "about(8)");
        }
    }

    /** WHICH by a day of this test's own, so that neither the policy nor the day that is held counts. */
    private static void whatIsSeen(SoftAsks x, List<Long> a) {
        a.add((long) x.about(10));
        Edges.write(x, "H110H110H110A00001A01001A02001");
        x.day();
        note(x, a, "which()", "turn(0)", "which()", "turn(1)", "which()", "turn(2)", "which()", "see(1, 1)", "which()");
        note(x, a, "unsee()", "which()", "about(10)");
    }

    /** The call changes just what is told, and nothing else. */
    private static void changes(String words, String call, Held... those) {
        Edges.sentence(words);
        for (Held held : Held.values()) {
            SoftAsks x = scene();
            Edges.said(x, call);
            boolean same = read(x, held).equals(read(scene(), held));
            boolean told = false;
            for (Held one : those) {
                told |= one == held;
            }
            Edges.so(call + (told ? " changes " : " leaves ") + held, told != same);
        }
    }

    private static void asked() {
        String words = "In what follows nothing is changed";
        for (int what = 0; what <= 11; what++) {
            changes("about: nothing is changed", "about(" + what + ")");
        }
        changes("fault: nothing is changed", "fault()");
        for (int what = 0; what <= 7; what++) {
            changes("ask: nothing is changed", "ask(1, " + what + ")");
            changes("host: nothing is changed", "host(1, " + what + ")");
        }
        for (int what = 0; what <= 10; what++) {
            changes("total: nothing is changed", "total(" + what + ")");
        }
        for (int what = 0; what <= 4; what++) {
            changes("stand: nothing is changed", "stand(5, 1, " + what + ")");
        }
        for (int what = 0; what <= 2; what++) {
            changes(words + ". BEST", "best(" + what + ")");
        }
        for (String row : new String[] {"1001", "2001", "3000", "4000", "5001", "6002", "7000", "8001", "8100", "9000"}) {
            changes(words + ". JUDGED", "judge(1, " + row + ")");
            changes(words + ". JUDGED", "judge(4, 1002" + "2003" + "8001" + row + ")");
        }
        changes(words + ". WHICH", "which()");
        changes(words + ". SHARE", "share(0, true)");
        changes(words + ". SHARE", "share(1, false)");
        changes(words + ". CALM", "calm(5, true)");
        changes(words + ". CALM", "calm(0, false)");
    }

    private static void textAndDay() {
        changes("A letter comes behind THE TEXT", "write('2')", Held.TEXT);
        changes("A letter comes behind THE TEXT, one by which it is no DAY, too", "write('z')", Held.TEXT);
        changes("THE TEXT is empty", "wipe()", Held.TEXT);
        changes("a day() that is LATE changes nothing", "day()");
        Edges.sentence("THE TEXT is THE DAY (THE TEXT itself stays; THE POLICY as at first, no HOST OUT, no DOINGS; "
            + "what was kept is gone; SEEN, THE SEED stay)");
        Held[] all = Held.values();
        for (Held held : all) {
            SoftAsks x = scene(), y = scene();
            Edges.said(x, "write('0') day()");
            Edges.said(y, "write('0')");
            boolean stays = held == Held.TEXT || held == Held.SEEN || held == Held.SEED;
            Edges.so("day() " + (stays ? "leaves " : "changes ") + held, read(x, held).equals(read(y, held)) == stays);
        }
        SoftAsks x = scene();
        Edges.said(x, "write('0') day()");
        Edges.abouts("behind day()", x, 0, 1, 0, 0, 2, 2, 0, 1, 0, 0, 0, 2, 4);
        Edges.due("again(0): what was kept is gone", x.again(0), Edges.LATE);
        Edges.due("again(1): what was kept is gone", x.again(1), Edges.LATE);
    }

    private static void doings() {
        int[] other = {1, 4, 2, 3, 1};
        for (int what = 0; what < other.length; what++) {
            changes("SET", "set(" + what + ", " + other[what] + ")", Held.POLICY, Held.DOINGS);
        }
        changes("SET: one of THE POLICY is told anew, as it was, too", "set(2, 1)", Held.DOINGS);
        changes("TURNED", "turn(0)", Held.OUT, Held.DOINGS);
        changes("TURNED", "turn(1)", Held.OUT, Held.DOINGS);
        changes("The last DOING is undone: a HOST that was TURNED", "undo()", Held.OUT, Held.DOINGS);
        changes("The last DOING is undone: one that was TURNED, then one that was SET", "undo() undo()",
            Held.POLICY, Held.OUT, Held.DOINGS);
        changes("what is SET and undone is as it was", "set(1, 2) undo()");
        changes("what is TURNED and undone is as it was", "turn(0) undo()");
        changes("TURNED twice: OUT, and no more", "turn(0) turn(0)", Held.DOINGS);
    }

    private static void seenAndSeed() {
        changes("SEEN", "see(1, 1)", Held.SEEN);
        changes("SEEN, the same once more", "see(0, 0)", Held.SEEN);
        changes("Nothing is SEEN", "unsee()", Held.SEEN);
        changes("THE SEED is v", "seed(12)", Held.SEED);
        changes("THE SEED is v, as it was, too", "seed(-77)");
        changes("(Nothing changes but THE SEED.)", "drawn(1)", Held.SEED);
        changes("(Nothing changes but THE SEED.)", "drawn(4)", Held.SEED);
    }

    private static void slots() {
        changes("They are kept", "keep(0)", Held.SLOT_0);
        changes("They are kept", "keep(1)", Held.SLOT_1);
        changes("They are as they were kept", "again(0)", Held.POLICY, Held.OUT, Held.DOINGS);
        changes("They are as they were kept", "again(1)", Held.POLICY, Held.OUT, Held.DOINGS);
        changes("what was kept stays kept", "again(1) keep(1)", Held.POLICY, Held.OUT, Held.DOINGS);
        changes("one goes on from the one SLOT, and from there to the other", "again(1) again(0)",
            Held.POLICY, Held.OUT, Held.DOINGS);
    }

    /** An object's answers are the same whether another is used between its calls or not. */
    private static void twoObjects() {
        Edges.sentence("A new object: No hosts, no asks (whatever others hold)");
        SoftAsks x = scene();
        SoftAsks y = new SoftAsks();
        Edges.abouts("a new object beside another", y, 0, 0, 0, 0, 2, 2, 0, 1, 0, 0, 0, 0, 0);
        Edges.due("seed of a new object", y.seed(9), 0);
        Edges.due("again(0) of a new object", y.again(0), Edges.LATE);
        Edges.said(y, "set(0, 1) set(1, 8) see(0, 0) write('H') keep(0) keep(1) unsee() drawn(2)");
        Edges.write(y, "H330A00030");
        y.day();
        Edges.said(y, "turn(0) best(2) set(3, 3) total(0) drawn(3) wipe()");
        List<Long> alone = Edges.all(scene()), beside = Edges.all(x);
        Edges.so("what another is used for changes nothing", alone.equals(beside));
    }
}
