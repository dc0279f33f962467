import java.util.function.Function;

/**
 * "ask(.., 3 .. 7), host(), total() are asked of the whole DAY, as HOSTS, SPANS, ASKS, THE POLICY, OUT are when it is
 * asked": each thing that can be asked, on a day on which it changes as one of these alone is changed.
 *
 * A row: a day; what is set ahead; what is changed; calls, each with what the last one answers ahead of the change and
 * behind it. The answers are those of a model that was written from the document beside the class.
 */
public final class AsTheyAreTest {
    private static final String[] BY_TRIES = {
        "H112H121X10007A00001A01002A01005A02001A01010A02003A00003A00003 | set(2, 1) | set(0, 1) |"
            + " ask(2, 3) 2 3; ask(2, 4) 6 4; ask(2, 5) 0 -9; ask(2, 6) 2 1; ask(2, 7) 1 0; host(0, 3) 6 5;"
            + " host(1, 4) 3 2; host(1, 5) 1 0; host(1, 6) 1 0; host(1, 7) 1 0; total(0) 6 5; total(1) 0 2;"
            + " total(2) 2 1; total(3) 11 8; total(4) 2 0; total(5) 1 0; total(7) 1 0; total(8) 1 0;"
            + " total(9) 0 24; total(10) 1079507968 1077235712; stand(4, 0, 0) 1 0; stand(5, 0, 1) 1 0;"
            + " stand(6, 1, 2) 1 0; stand(4, 0, 3) 2 -9; judge(1, 6022) -9 0; judge(1, 7006) -9 0;"
            + " see(2, 0) which() 0 2; share(0, false) 2 1; share(0, true) 9 4; seed(2) drawn(2) 16 15;",
        "H110H110X00003A02002A02002 | set(3, 3) | set(0, 1) |"
            + " stand(4, 0, 4) 1044381696 1048576000; calm(1, false) 10 100; calm(1, true) 9 81;",
        "A00001 | | set(0, 1) |"
            + " total(6) 2 1;",
    };

    private static final String[] BY_GAIN = {
        "H220H240X10014A03002A03010A04006A03002A06002 | set(2, 1) set(3, 2) | set(1, 7) |"
            + " ask(2, 3) 3 2; ask(2, 4) 8 10; ask(2, 5) -9 0; ask(2, 6) 1 2; ask(2, 7) 0 1; host(0, 3) 4 5;"
            + " host(1, 4) 3 4; host(1, 5) 1 2; host(1, 6) 0 1; total(0) 4 5; total(1) 1 0; total(3) 7 9;"
            + " total(4) 1 2; total(5) 1 2; total(8) 1 2; total(9) 2 11; total(10) 1080590336 1082601472;"
            + " stand(8, 0, 1) 1 2; stand(12, 1, 2) 0 1; best(0) 4 5; best(1) 1 2; best(2) 200 210;"
            + " judge(1, 6023) -9 0; judge(1, 7004) -9 0; see(2, 0) which() 2 0; share(0, false) 2 1;"
            + " share(0, true) 7 4; calm(1, false) 100 10; calm(1, true) 81 9; seed(0) drawn(2) 9 10;",
        "H121X00010A01001A00001A00005A00001A02005A00001 | | set(1, 6) |"
            + " host(0, 7) 5 6; total(2) 3 6; total(6) 0 1; total(7) 5 6; stand(4, 0, 0) 0 1;"
            + " stand(4, 0, 3) -9 2;",
        "H110X00001A00002A00001 | set(3, 3) | set(1, 6) |"
            + " stand(2, 0, 4) 1048576000 1044381696;",
    };

    private static final String[] BY_HEDGE = {
        "H121H161H151X11012A02010A01009A00005A00011A04010A00005A01013 | | set(2, 1) |"
            + " ask(6, 3) 2 3; ask(6, 4) 14 12; ask(6, 5) 0 -9; ask(6, 6) 2 1; ask(3, 7) 0 1; host(0, 3) 5 4;"
            + " host(2, 5) 0 1; host(0, 7) 0 1; total(0) 7 6; total(1) 0 1; total(3) 8 9; total(4) 1 0;"
            + " total(5) 0 2; total(7) 0 1; total(8) 0 1; total(9) 14 6; total(10) 1087293696 1082723328;"
            + " stand(4, 2, 0) 0 1; stand(12, 0, 1) 1 0; stand(4, 2, 3) -9 3; judge(1, 6062) -9 0;"
            + " judge(1, 7007) -9 0; see(6, 0) which() 0 2; share(0, false) 2 6; share(0, true) 9 25;"
            + " calm(1, false) 100 1000; calm(1, true) 81 729; seed(0) drawn(1) 6 7;",
        "H260X00020A00010A00001 | | set(2, 1) |"
            + " host(0, 4) 3 2; host(0, 6) 1 0; total(2) 2 1; total(6) 0 1; stand(12, 0, 2) 1 0;",
        "H160X00010A00010 | set(3, 3) | set(2, 1) |"
            + " stand(12, 0, 4) 1044381696 1048576000;",
    };

    private static final String[] BY_BREAKER = {
        "H120H121X00014A02001A11003A10002A00001A00010A04010A10001A00010 | | set(3, 0) |"
            + " ask(1, 3) 2 3; ask(1, 4) 14 12; ask(1, 5) 1 -9; ask(1, 6) 1 2; host(0, 3) 3 5; host(0, 4) 3 5;"
            + " host(1, 5) 0 1; host(0, 6) 1 0; host(0, 7) 2 4; total(0) 4 1; total(1) 1 3; total(2) 3 4;"
            + " total(3) 10 11; total(4) 2 3; total(7) 2 4; total(8) 2 3; total(9) 8 0;"
            + " total(10) 1078624256 1080033280; stand(10, 1, 0) 1 0; stand(6, 0, 1) 0 1; stand(6, 0, 2) 1 0;"
            + " stand(10, 1, 3) 6 -9; judge(1, 6012) -9 0; judge(1, 7004) -9 0; see(1, 0) which() 2 3;"
            + " share(0, false) 1 2; share(1, true) 4 5; seed(2) drawn(2) 9 8;",
        "H110H110A00004A00001 | set(0, 4) set(1, 8) | set(3, 0) |"
            + " calm(1, false) 10 100; calm(1, true) 9 81;",
        "H120H160X00011A00003A09001A00001A11010 | set(2, 1) | set(3, 2) |"
            + " ask(3, 7) 1 0; total(5) 1 0; total(6) 1 0;",
        "H110X00010A00001 | | set(3, 3) |"
            + " stand(1, 0, 4) 0 1048576000;",
    };

    private static final String[] BY_SHED = {
        "H130H110X00010A06001A06001A04002A03005A03001A00109 | set(1, 8) set(2, 1) | set(4, 1) |"
            + " ask(5, 3) 3 2; ask(2, 4) 5 6; ask(5, 5) -9 1; ask(2, 6) 1 2; ask(5, 7) 0 1; host(1, 3) 3 4;"
            + " host(0, 5) 1 2; host(1, 7) 0 1; total(0) 3 4; total(1) 2 1; total(3) 8 10; total(4) 2 3;"
            + " total(5) 0 1; total(7) 2 3; total(8) 1 2; total(9) 40 24; total(10) 1074855936 1076674560;"
            + " stand(5, 1, 1) 0 1; best(0) 5 4; best(1) 1 0; best(2) 400 300; judge(1, 6053) -9 0;"
            + " judge(1, 7003) -9 0; see(5, 0) which() 1 0; share(0, false) 2 1; share(0, true) -1 0;",
        "H132X00010A02110A01003A01003A00001 | set(3, 3) | set(4, 1) |"
            + " host(0, 4) 2 3; host(0, 6) 0 1; total(2) 3 2; total(6) 0 1; stand(4, 0, 0) 0 1;"
            + " stand(9, 0, 2) 0 1; stand(3, 0, 3) 2 0; stand(9, 0, 4) 1054867456 0;",
        "H110A01001A01003A02001A00001 | set(0, 4) set(1, 6) | set(4, 2) |"
            + " calm(1, false) 10 1; calm(1, true) 9 0; seed(1) drawn(2) 8 7;",
    };

    private static final String[] BY_OUT = {
        "H142H110H111X20012A03001A05001A00010A02010A11001A02010A05004A03003 | set(2, 1) set(3, 3) | turn(1) |"
            + " ask(0, 3) 2 4; ask(3, 4) 3 12; ask(0, 5) 1 -9; ask(3, 6) 1 2; ask(3, 7) 0 1; host(1, 3) 4 0;"
            + " host(2, 4) 3 4; host(0, 5) 1 0; host(2, 6) 1 2; host(0, 7) 0 2; total(0) 6 3; total(1) 1 2;"
            + " total(2) 1 3; total(3) 10 11; total(5) 0 1; total(6) 0 1; total(7) 0 2; total(8) 1 0;"
            + " total(9) 8 0; total(10) 1078615040 1086062592; stand(2, 0, 0) 0 1; stand(8, 0, 1) 0 1;"
            + " stand(5, 2, 2) 0 1; stand(2, 0, 3) -9 5; stand(5, 2, 4) 1054867456 0; best(0) 6 3; best(1) 1 0;"
            + " judge(1, 6002) -9 0; judge(1, 7006) -9 0; see(0, 0) which() 2 4; share(0, false) 3 1;"
            + " share(0, true) 5 3; calm(1, false) 1 100; calm(1, true) 0 81; seed(0) drawn(1) 5 3;",
        "H120A01003A00001 | set(1, 8) | turn(0) |"
            + " total(4) 1 2; best(2) 300 100;",
    };

    private static final String[] BY_SPANS = {
        "H110H151H130A01001A04003A03001A00002A05002A03010 | set(2, 2) | X00018 |"
            + " ask(0, 3) 2 4; ask(1, 4) 5 7; ask(0, 5) 0 -9; ask(3, 6) 1 2; ask(5, 7) 1 0; host(0, 3) 6 3;"
            + " host(0, 4) 0 3; host(1, 5) 1 2; host(0, 6) 0 1; host(2, 7) 0 2; total(0) 6 1; total(1) 0 1;"
            + " total(2) 0 4; total(3) 7 8; total(4) 0 2; total(5) 1 0; total(7) 0 2; total(8) 1 2;"
            + " total(9) 12 4; total(10) 1075981312 1081081856; stand(4, 1, 0) 0 1; stand(4, 0, 1) 1 0;"
            + " stand(4, 0, 2) 0 1; stand(4, 1, 3) -9 1; best(0) 6 2; best(2) 100 101; judge(1, 6002) -9 0;"
            + " judge(1, 7006) -9 0; share(0, false) 3 6; share(0, true) 16 1; seed(0) drawn(1) 6 4;",
        "H110H170A00001A00007 | set(3, 3) | X10013 |"
            + " stand(7, 1, 4) 0 1048576000; best(1) 0 1;",
        "H110A02001A03001A00002 | | X00011 |"
            + " total(6) 0 1;",
    };

    public static void main(String[] args) {
        rows("THE POLICY .. when it is asked: TRIES", BY_TRIES);
        rows("THE POLICY .. when it is asked: GAIN", BY_GAIN);
        rows("THE POLICY .. when it is asked: HEDGE", BY_HEDGE);
        rows("THE POLICY .. when it is asked: BREAKER", BY_BREAKER);
        rows("THE POLICY .. when it is asked: SHED", BY_SHED);
        rows("OUT .. when it is asked", BY_OUT);
        rows("SPANS .. when it is asked", BY_SPANS);
        judgedBehindDoings();
        bestWhateverIsSet();
        spansSetAside();
        hoursDrawn();
        Edges.finish("as they are");
    }

    private static void rows(String words, String[] rows) {
        for (String row : rows) {
            String[] part = row.split("\\|");
            String text = part[0].trim(), ahead = part[1], change = part[2].trim();
            for (String asked : part[3].trim().split(";\\s*")) {
                String[] word = asked.split(" (?=-?\\d+( -?\\d+)?$)");
                Edges.sentence(words);
                changed(text, ahead, change, word[0], Long.parseLong(word[1]), Long.parseLong(word[2]));
            }
        }
    }

    private static void changed(String text, String ahead, String change, String asked, long first, long then) {
        String when = text + " " + ahead.trim() + " ";
        SoftAsks x = Edges.of(text);
        Edges.said(x, ahead);
        Edges.due(when + asked, Edges.said(x, asked), first);
        if (change.startsWith("X")) {
            Edges.write(x, text + change);
            Edges.so("the span is told", x.day() >= 0);
            Edges.said(x, "unsee() " + ahead);
            Edges.due(when + change + " " + asked, Edges.said(x, asked), then);
            return;
        }
        x.unsee();
        x.keep(1);
        Edges.said(x, change);
        Edges.due(when + change + " " + asked, Edges.said(x, asked), then);
        x.unsee();
        x.keep(0);
        x.undo();
        Edges.due(when + change + " undo() " + asked, Edges.said(x, asked), first);
        x.unsee();
        x.again(0);
        Edges.due(when + change + ", kept and gone on from, " + asked, Edges.said(x, asked), then);
        x.unsee();
        x.again(1);
        Edges.due(when + "kept and gone on from, " + asked, Edges.said(x, asked), first);
    }

    /** Each row that tells how many are done ahead of a change and behind it: the same change as a told doing. */
    private static void judgedBehindDoings() {
        for (String[] rows : new String[][] {BY_TRIES, BY_GAIN, BY_HEDGE, BY_BREAKER, BY_SHED, BY_OUT}) {
            for (String row : rows) {
                String[] part = row.split("\\|");
                String done = part[3].replaceFirst("(?s)^.*\\btotal\\(0\\) ([^;]*);.*$", "$1");
                if (!done.equals(part[3])) {
                    String ended = part[3].replaceFirst("(?s)^.*?\\bask\\((\\d+, 3\\) [^;]*);.*$", "$1");
                    judged(part[0].trim(), part[1], part[2].trim(), numbers(done), numbers(ended));
                }
            }
        }
    }

    private static int[] numbers(String told) {
        String[] word = told.split("[^0-9]+");
        int[] n = new int[word.length];
        for (int i = 0; i < n.length; i++) {
            n[i] = Integer.parseInt(word[i]);
        }
        return n;
    }

    private static void judged(String text, String ahead, String change, int[] done, int[] ended) {
        Edges.sentence("the first that can not be (or is not so), what is ahead of it being done");
        int[] n = numbers(change.replaceFirst("^\\D+", ""));
        long doing = change.startsWith("set") ? (n[0] + 1) * 1000L + n[1] : 8001L + n[0] * 100L;
        SoftAsks x = Edges.of(text);
        Edges.said(x, ahead);
        long was = 7000L + done[0], is = 7000L + done[1];
        long endedWas = 6000L + ended[0] * 10L + ended[2], endedIs = 6000L + ended[0] * 10L + ended[3];
        String when = text + " " + ahead + " judge ";
        Edges.due(when + was, x.judge(1, was), Edges.NONE);
        Edges.due(when + is, x.judge(1, is), 0);
        Edges.due(when + doing + is, x.judge(2, doing * 10000L + is), Edges.NONE);
        Edges.due(when + doing + was, x.judge(2, doing * 10000L + was), 1);
        Edges.due(when + was + doing + is, x.judge(3, (was * 10000L + doing) * 10000L + is), Edges.NONE);
        Edges.due(when + endedWas + doing + endedIs,
            x.judge(3, (endedWas * 10000L + doing) * 10000L + endedIs), Edges.NONE);
        Edges.due(when + endedWas + doing + endedWas,
            x.judge(3, (endedWas * 10000L + doing) * 10000L + endedWas), 2);
        Edges.due(when + was + " once more: nothing is changed", x.judge(1, was), Edges.NONE);
    }

    private static void bestWhateverIsSet() {
        Edges.sentence("the POLICY (TRIES, HEDGE, BREAKER as three figures; GAIN, SHED as they are)");
        SoftAsks x = Edges.by("H220H240X10014A03002A03010A04006A03002A06002", 2, 7);
        for (int tries = 1; tries <= 4; tries++) {
            for (int hedge = 0; hedge <= 2; hedge++) {
                for (int breaker = 0; breaker <= 3; breaker++) {
                    Edges.said(x, "set(0, " + tries + ") set(2, " + hedge + ") set(3, " + breaker + ")");
                    Edges.due("best(2) by " + tries + hedge + breaker, x.best(2), 210);
                }
            }
        }
        Edges.due("best(0)", x.best(0), 5);
        Edges.due("best(1)", x.best(1), 2);
    }

    private static void spansSetAside() {
        Edges.sentence("SEEN, CALM: all SPANS are set aside");
        String text = "H110H190A00005A00109A03030";
        Function<SoftAsks, String> tell = x -> {
            String t = "";
            for (int ask = 0; ask < 3; ask++) {
                for (int was = 0; was < 2; was++) {
                    x.see(ask, was);
                    t += x.which() + " ";
                    x.unsee();
                }
            }
            return t + x.calm(3, true) + "/" + x.calm(3, false);
        };
        String bare = tell.apply(Edges.of(text));
        for (String spans : new String[] {"X00079", "X10079", "X00079X10079", "X00105X10912X00000X17979"}) {
            Edges.so(spans + " changes neither WHICH nor CALM", tell.apply(Edges.of(text + spans)).equals(bare));
        }
        Edges.so("what is told is not all alike: " + bare, !bare.startsWith("0 0 0 0 0 0"));
    }

    private static void drawn(String text, String ahead, int m, int want) {
        SoftAsks x = Edges.of(text);
        Edges.said(x, ahead);
        Edges.due(text + " " + ahead + " drawn(" + m + ")", x.drawn(m), want);
    }

    private static void hoursDrawn() {
        Edges.sentence("each ASK, 0 first, has for its HOUR what is DRAWN: it comes then (COMES)");
        drawn("H110A00001A00001", "", 1, 2);
        Edges.sentence(".. has for its HOUR what is DRAWN: LIMITS count from it");
        drawn("H120A00010", "", 4, 4);
        Edges.sentence(".. has for its HOUR what is DRAWN: by SHED 2 it counts with LIMIT");
        drawn("H120A00001A01001A00001A00002", "set(4, 2) seed(54)", 1, 1);
        Edges.sentence(".. has for its HOUR what is DRAWN: HEDGES look how old an ASK is by it");
        drawn("H120H110A00001", "set(2, 1)", 1, 0);
        Edges.sentence(".. has for its HOUR what is DRAWN: LEARNT is by it (d: T less HOUR)");
        drawn("H120H110A00001A20010", "set(2, 1)", 4, 4);
    }
}
