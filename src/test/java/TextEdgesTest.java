/** The edges of THE TEXT and of what it tells: part 1 of the terms, promises 1 to 5. */
public final class TextEdgesTest {
    private static final int LATE = Edges.LATE, FULL = Edges.FULL, BAD = Edges.BAD, NONE = Edges.NONE;
    private static final String FIGURES = "0123456789";
    private static final String H = "H190", X = "X00000", A = "A00001";
    private static final String WHOLE = H.repeat(4) + X.repeat(4) + A.repeat(12);

    public static void main(String[] args) {
        newObject();
        letters();
        fullText();
        wipes();
        noParts();
        hostsFourAtMost();
        workers();
        ticks();
        room();
        spansFourAtMost();
        hostOfASpan();
        ticksOfASpan();
        fromNoMoreThanTo();
        asksTwelveAtMost();
        hours();
        ranks();
        limits();
        onlyNotAtItsEnd();
        firstOfSeveral();
        lengthSetAside();
        days();
        lateDays();
        Edges.finish("text edges");
    }

    private static int faultOf(String text) {
        return Edges.write(new SoftAsks(), text).fault();
    }

    private static void fault(String text, int want) {
        SoftAsks x = Edges.write(new SoftAsks(), text);
        Edges.due("fault() of " + text, x.fault(), want);
        Edges.so("day() of " + text, want == NONE ? x.day() >= 0 : x.day() == LATE);
    }

    /** Of all letters just these may come behind a text; each other one is its first fault. */
    private static void next(String text, String may) {
        for (int letter = 0; letter <= 255; letter++) {
            int got = faultOf(text + (char) letter);
            boolean fits = may.indexOf(letter) >= 0;
            Edges.so("behind " + text + " the letter " + letter + (fits ? " may come" : " may not come") + ", fault() is "
                + got, fits ? got == NONE || got == text.length() + 1 : got == text.length());
        }
    }

    private static void newObject() {
        Edges.sentence("No hosts, no asks.");
        Edges.abouts("new", new SoftAsks(), 0, 0, 0, 0, 2, 2, 0, 1, 0, 0, 0, 0, 0);
        Edges.due("fault() of a new object", new SoftAsks().fault(), NONE);
        Edges.due("seed() of a new object", new SoftAsks().seed(1L), 0L);
        Edges.due("again(0) of a new object", new SoftAsks().again(0), LATE);
        Edges.due("again(1) of a new object", new SoftAsks().again(1), LATE);
    }

    private static void letters() {
        Edges.sentence("A letter (0 .. 255) comes behind THE TEXT: how long it is. BAD");
        SoftAsks x = new SoftAsks();
        Edges.due("write(-1)", x.write(-1), BAD);
        Edges.due("write(256)", x.write(256), BAD);
        Edges.due("write(lowest)", x.write(Edges.LOWEST), BAD);
        Edges.due("write(highest)", x.write(Edges.HIGHEST), BAD);
        Edges.due("how long it is", x.about(11), 0);
        Edges.due("write(0)", x.write(0), 1);
        Edges.due("write(255)", x.write(255), 2);
        Edges.due("how long it is", x.about(11), 2);
        // a letter is no other one whose lowest bits are alike
        x = new SoftAsks();
        Edges.due("write('H' + 256)", x.write('H' + 256), BAD);
        Edges.due("write('H' - 256)", x.write('H' - 256), BAD);
        Edges.due("fault()", x.fault(), NONE);
    }

    private static void fullText() {
        Edges.sentence("FULL: there are 120.");
        SoftAsks x = new SoftAsks();
        for (int i = 1; i <= 120; i++) {
            Edges.due("the letter " + i, x.write('A'), i);
        }
        Edges.due("the letter 121", x.write('A'), FULL);
        Edges.due("the letter 121, a 0", x.write(0), FULL);
        Edges.due("the letter 121, none at all", x.write(256), BAD);
        Edges.due("the letter 121, none at all", x.write(-1), BAD);
        Edges.due("how long it is", x.about(11), 120);
        Edges.due("fault()", x.fault(), 1);
        // what was not taken is not there when there is room again
        Edges.due("wipe()", x.wipe(), 120);
        Edges.due("a letter behind it", x.write('H'), 1);
        Edges.due("how long it is", x.about(11), 1);
    }

    private static void wipes() {
        Edges.sentence("THE TEXT is empty: how long it was.");
        SoftAsks x = new SoftAsks();
        Edges.due("wipe() of an empty one", x.wipe(), 0);
        x.write('Q');
        Edges.due("fault()", x.fault(), 0);
        Edges.due("wipe() of one letter", x.wipe(), 1);
        Edges.due("wipe() again", x.wipe(), 0);
        Edges.due("how long it is", x.about(11), 0);
        Edges.due("fault()", x.fault(), NONE);
        Edges.due("a longer one, wiped", Edges.write(x, H + A).wipe(), 10);
        Edges.write(x, H);
        Edges.due("a shorter one tells nothing of the longer one", x.day(), 0);
    }

    private static void noParts() {
        Edges.sentence("PARTS, none or more, each kind numbered as it is told");
        fault("", NONE);
        fault(H, NONE);
        fault(A, NONE);
        fault(A + H + A + H + "X10000" + A + "X00000" + H, NONE);
        SoftAsks x = Edges.of("A01101H115A02202H224X13333A03303X04444");
        for (int i = 0; i < 3; i++) {
            Edges.due("HOUR of " + i, x.ask(i, 0), i + 1);
            Edges.due("RANK of " + i, x.ask(i, 1), i + 1);
            Edges.due("LIMIT of " + i, x.ask(i, 2), i + 1);
        }
        Edges.due("WORKERS of 0, of 1", x.host(0, 0) * 10 + x.host(1, 0), 12);
        Edges.due("TICKS of 0, of 1", x.host(0, 1) * 10 + x.host(1, 1), 12);
        Edges.due("ROOM of 0, of 1", x.host(0, 2) * 10 + x.host(1, 2), 54);
        Edges.due("SPANS", x.about(2), 2);
        next("", "HA");
        next(H, "HXA");
    }

    private static void hostsFourAtMost() {
        Edges.sentence("HOSTS (4 at most; none at first)");
        next(H.repeat(3), "HXA");
        next(H.repeat(4), "XA");
        fault(H.repeat(4), NONE);
        fault(H.repeat(5), 16);
        Edges.due("four HOSTS", Edges.of(H.repeat(4)).about(0), 4);
        Edges.due("the fourth one", Edges.of(H.repeat(3) + "H345").host(3, 2), 5);
        Edges.due("none at first", new SoftAsks().about(0), 0);
    }

    private static void workers() {
        Edges.sentence("WORKERS (1 .. 3)");
        next("H", "123");
        next(H + "H", "123");
        Edges.due("1", Edges.of("H190").host(0, 0), 1);
        Edges.due("3", Edges.of("H390").host(0, 0), 3);
    }

    private static void ticks() {
        Edges.sentence("TICKS (1 .. 9)");
        next("H1", "123456789");
        next("H3", "123456789");
        Edges.due("1", Edges.of("H110").host(0, 1), 1);
        Edges.due("9", Edges.of("H190").host(0, 1), 9);
    }

    private static void room() {
        Edges.sentence("ROOM (0 .. 5)");
        next("H19", "012345");
        next("H31", "012345");
        Edges.due("0", Edges.of("H190").host(0, 2), 0);
        Edges.due("5", Edges.of("H195").host(0, 2), 5);
    }

    private static void spansFourAtMost() {
        Edges.sentence("SPANS (4 at most)");
        next(H + X.repeat(3), "HXA");
        next(H + X.repeat(4), "HA");
        fault(H + X.repeat(4), NONE);
        fault(H + X.repeat(5), 28);
        Edges.due("four SPANS", Edges.of(H + X.repeat(4)).about(2), 4);
        Edges.due("none at first", new SoftAsks().about(2), 0);
        // the fourth one counts as the others do
        Edges.due("the fourth one", Edges.of("H140" + X.repeat(3) + "X00404A00001").host(0, 4), 1);
    }

    private static void hostOfASpan() {
        Edges.sentence("a SPAN of a HOST that is told ahead of it (so .. an X where no HOST is told)");
        next(A, "HA");
        fault("X", 0);
        fault(A + "X00000" + H, 6);
        for (int hosts = 1; hosts <= 4; hosts++) {
            next(H.repeat(hosts) + "X", FIGURES.substring(0, hosts));
        }
        fault(H + "X10000" + H, 5);
        fault(H + H + "X10000", NONE);
        fault(H.repeat(4) + "X30000", NONE);
        fault(H.repeat(4) + "X40000", 17);
    }

    private static void ticksOfASpan() {
        Edges.sentence("from a TICK to one (0 .. 79 ..)");
        next(H + "X0", "01234567");
        next(H + "X00", FIGURES);
        next(H + "X07", FIGURES);
        next(H + "X000", "01234567");
        next(H + "X0007", FIGURES);
        fault(H + "X00079", NONE);
        fault(H + "X00080", 8);
        fault(H + "X07979", NONE);
        fault(H + "X08080", 6);
    }

    private static void fromNoMoreThanTo() {
        Edges.sentence("aa is no more than bb");
        next(H + "X045", "4567");
        next(H + "X0454", "56789");
        next(H + "X0455", FIGURES);
        next(H + "X040", "4567");
        next(H + "X0404", FIGURES);
        next(H + "X049", "4567");
        next(H + "X0494", "9");
        next(H + "X079", "7");
        next(H + "X0797", "9");
        next(H + "X070", "7");
        next(H + "X0000", FIGURES);
        fault(H + "X04545", NONE);
        fault(H + "X04544", 9);
        fault(H + "X04539", 8);
        fault(H + "X04546", NONE);
        for (int from = 0; from <= 79; from++) {
            for (int to = 0; to <= 99; to++) {
                boolean first = to / 10 < from / 10 || to > 79;
                fault(String.format("%sX0%02d%02d", H, from, to), first ? 8 : to < from ? 9 : NONE);
            }
        }
    }

    private static void asksTwelveAtMost() {
        Edges.sentence("ASKS (12 at most; none at first)");
        next(A.repeat(11), "HA");
        next(A.repeat(12), "H");
        next(H + A.repeat(12), "HX");
        fault(A.repeat(12), NONE);
        fault(A.repeat(13), 72);
        SoftAsks x = Edges.write(new SoftAsks(), A.repeat(11) + "A40330");
        Edges.due("day() of twelve", x.day(), 12);
        Edges.due("twelve ASKS", x.about(1), 12);
        Edges.due("the twelfth one", x.ask(11, 0), 40);
        Edges.due("none at first", new SoftAsks().about(1), 0);
    }

    private static void hours() {
        Edges.sentence("HOUR (0 .. 40)");
        next("A", "01234");
        next("A0", FIGURES);
        next("A3", FIGURES);
        next("A4", "0");
        Edges.due("0", Edges.of("A00001").ask(0, 0), 0);
        Edges.due("40", Edges.of("A40001").ask(0, 0), 40);
        fault("A41001", 2);
        fault("A50001", 1);
        for (int hour = 0; hour <= 99; hour++) {
            fault(String.format("A%02d001", hour), hour <= 40 ? NONE : hour < 50 ? 2 : 1);
        }
        for (int hour = 0; hour <= 40; hour++) {
            Edges.due("HOUR " + hour, Edges.of(String.format("A%02d001", hour)).ask(0, 0), hour);
        }
    }

    private static void ranks() {
        Edges.sentence("RANK (0 .. 3)");
        next("A00", "0123");
        next("A40", "0123");
        Edges.due("0", Edges.of("A00001").ask(0, 1), 0);
        Edges.due("3", Edges.of("A00301").ask(0, 1), 3);
    }

    private static void limits() {
        Edges.sentence("LIMIT (1 .. 30) .. the second figure of a LIMIT 00");
        next("A000", "0123");
        next("A403", "0123");
        next("A0000", "123456789");
        next("A0001", FIGURES);
        next("A0002", FIGURES);
        next("A0003", "0");
        Edges.due("1", Edges.of("A00001").ask(0, 2), 1);
        Edges.due("30", Edges.of("A00030").ask(0, 2), 30);
        fault("A00000", 5);
        fault("A00031", 5);
        fault("A00040", 4);
        for (int limit = 1; limit <= 99; limit++) {
            fault(String.format("A000%02d", limit), limit <= 30 ? NONE : limit < 40 ? 5 : 4);
        }
        for (int limit = 1; limit <= 30; limit++) {
            Edges.due("LIMIT " + limit, Edges.of(String.format("A000%02d", limit)).ask(0, 2), limit);
        }
    }

    private static void onlyNotAtItsEnd() {
        Edges.sentence("its length, if it is only not at its end; NONE: none");
        String day = "A40330H110X00000" + H + "X13979" + A;
        String partEnds = ",0,6,10,16,20,26,32,";
        for (int n = 0; n <= day.length(); n++) {
            fault(day.substring(0, n), partEnds.contains("," + n + ",") ? NONE : n);
        }
        for (int n = 0; n < WHOLE.length(); n++) {
            int part = n < 16 ? n % 4 : (n - 16) % 6;
            fault(WHOLE.substring(0, n), part == 0 ? NONE : n);
        }
    }

    private static void firstOfSeveral() {
        Edges.sentence("the place (from 0) of the first letter by which THE TEXT can be no DAY, whatever came behind it");
        fault("Q", 0);
        fault("QQ", 0);
        fault("HQ", 1);
        fault(H + "Q", 4);
        fault(H + "QQ" + H, 4);
        fault("A41" + "Q", 2);
        fault("H4Q0", 1);
        fault(H + "X14538", 5);
        fault(H + "X04538" + "Q", 8);
        fault("h190", 0);
        fault("H 190", 1);
        fault(" ", 0);
        fault(H + "\n", 4);
    }

    private static void lengthSetAside() {
        Edges.sentence("(its length set aside ..)");
        Edges.due("the longest day", WHOLE.length(), 112);
        next(WHOLE, "");
        next(H.repeat(4) + X.repeat(4) + A.repeat(11), "A");
        next(H.repeat(4) + X.repeat(3) + A.repeat(12), "X");
        next(H.repeat(3) + X.repeat(4) + A.repeat(12), "H");
        SoftAsks x = Edges.write(new SoftAsks(), WHOLE);
        Edges.due("fault() of the longest day", x.fault(), NONE);
        Edges.due("day() of the longest day", x.day(), 12);
        Edges.abouts("the longest day", x, 0, 4, 12, 4);
        for (int n = 1; n <= 8; n++) {
            fault(WHOLE + "A".repeat(n), 112);
        }
        // a full text in which all but the last letter may come
        fault("Q" + "A".repeat(119), 0);
        fault(A.repeat(12) + "H".repeat(48), 73);
    }

    private static void days() {
        Edges.sentence("THE TEXT is THE DAY (THE TEXT itself stays; .. SEEN, THE SEED stay): how many ASKS.");
        SoftAsks x = Edges.of("H123H395X10079X01020A05309A40030");
        x.set(0, 4);
        x.set(1, 8);
        x.set(2, 2);
        x.set(3, 3);
        x.set(4, 2);
        x.turn(1);
        x.keep(0);
        x.keep(1);
        x.see(1, 0);
        x.seed(77L);
        Edges.abouts("ahead", x, 0, 2, 2, 2, 4, 8, 2, 3, 2, 2, 6, 1, 32);
        Edges.due("day() of the same text", x.day(), 2);
        Edges.abouts("behind", x, 0, 2, 2, 2, 2, 2, 0, 1, 0, 0, 0, 1, 32);
        Edges.due("no DOINGS", x.undo(), LATE);
        Edges.due("what was kept is gone", x.again(0), LATE);
        Edges.due("what was kept is gone", x.again(1), LATE);
        Edges.due("THE SEED stays", x.seed(0L), 77L);
        Edges.due("THE TEXT stays", x.fault(), NONE);
        x.wipe();
        Edges.abouts("the day stays when the text is wiped", x, 0, 2, 2, 2);
        Edges.due("day() of no letters", x.day(), 0);
        Edges.abouts("an empty day", x, 0, 0, 0, 0, 2, 2, 0, 1, 0, 0, 0, 1, 0);
        // what an earlier day told is gone, its spans too
        x = Edges.of("H140X00079A00001");
        Edges.due("bad ones with a SPAN", x.host(0, 4), 1);
        Edges.write(x, "H140A00001");
        Edges.due("day() without the SPAN", x.day(), 1);
        Edges.due("bad ones without it", x.host(0, 4), 0);
        Edges.due("SPANS", x.about(2), 0);
    }

    private static void lateDays() {
        Edges.sentence("LATE: a FAULT .. a day() that is LATE changes nothing");
        Edges.due("a fault at 0", Edges.write(new SoftAsks(), "Q").day(), LATE);
        Edges.due("only not at its end", Edges.write(new SoftAsks(), "H11").day(), LATE);
        Edges.due("at its end", Edges.write(new SoftAsks(), "H110").day(), 0);
        SoftAsks x = Edges.of("H123H395X10079A05309");
        x.set(0, 3);
        x.turn(0);
        x.keep(1);
        x.see(0, 1);
        x.seed(9L);
        Edges.write(x, "H110H110H110A00001A00001A0000");
        Edges.due("day()", x.day(), LATE);
        Edges.abouts("a day that is LATE", x, 0, 2, 1, 1, 3, 2, 0, 1, 0, 1, 2, 1, 29);
        Edges.due("the HOUR told ahead", x.ask(0, 0), 5);
        Edges.due("the ROOM told ahead", x.host(1, 2), 5);
        Edges.due("what was kept", x.again(1), 2);
        Edges.due("THE SEED", x.seed(0L), 9L);
        x.write('1');
        Edges.due("day() when it is at its end", x.day(), 3);
    }
}
