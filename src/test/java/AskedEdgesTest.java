import java.math.BigInteger;

/** The edges of what is asked of THE DAY without changing it: part 3 of the terms, promises 14 to 22. */
public final class AskedEdgesTest {
    private static final int UNKNOWN = Edges.UNKNOWN, BAD = Edges.BAD, LATE = Edges.LATE, FULL = Edges.FULL;
    private static final int NONE = Edges.NONE;
    private static final BigInteger TIMES = new BigInteger("6364136223846793005");
    private static final BigInteger PLUS = new BigInteger("1442695040888963407");
    private static final BigInteger WRAP = BigInteger.ONE.shiftLeft(64);

    /** Twelve asks for twelve workers of four hosts: all are done at 1. */
    private static final String TWELVE = "H310H310H310H310" + "A00001".repeat(12);

    /** For each policy a day by which it is the best one: its figures, GAIN, the text. */
    private static final String[] BEST = {
        "100 2 H170X01220A02327A06026A08228",
        "101 2 H274X01130A22103A13010A09130A07003",
        "102 2 H323X02332A23311A18306A25101A21207A06126",
        "103 2 H285X01124X02741A38304A17111A21102A03220A21319A02221",
        "110 4 H391H285X01230A20321A11221A20215",
        "111 4 H375H292X00928A06105A14119A17315A07321",
        "112 2 H131H181X00921A17209A10113A01217A04026A08122",
        "113 2 H272H210X04152X11525X12934A11327A25313A30101A11024A31024A25301",
        "120 2 H184H113X00827A19222A19023A18218",
        "121 2 H320H295H325X00518A15228A03009A02105A06103A08106",
        "122 2 H120H191X01433X01214A04230A05128A16220A19114A07119",
        "123 2 H214H175X00514X01729A15320A20207A03318A11003A16106A03301A28321A19016",
        "200 2 H160X00620A16223A03328A11109",
        "201 8 H271X00927A13014A11121A09120",
        "202 4 H242X00824A11109A24103A04225",
        "203 4 H263X01532X00109A25304A02230A09021A06118",
        "210 4 H360X00111A07105A05009A04118",
        "211 4 H385X00822A19302A00330A04211",
        "212 8 H293H225X11231A20217A12326A08017",
        "213 8 H112H173X01722X00811A23013A16008A10020A17227A04214",
        "220 4 H282X00822A09225A23019A11011",
        "221 8 H152H344X00725A16309A04027A02323",
        "222 8 H253H224X01325A19227A34302A09313",
        "223 4 H384X02341X01416A35125A03214A06020A32311A22014",
        "300 8 H130X02429A22015A21310A07112",
        "301 8 H363X02032A29020A15120A26207",
        "302 8 H125X00817A26301A08311A21014",
        "303 8 H392X01823X00010A13204A01325A04020A00229",
        "310 8 H350X00717A18024A06319A12206",
        "311 8 H271H123X10825A09023A16316A07305",
        "312 8 H322H171X00216A03107A12027A02222",
        "313 8 H133H315X03248X12835X02428A27310A30219A13210A21309",
        "320 8 H242X01221A09016A11311A11203",
        "321 8 H244H382X00726A07324A16109A04329",
        "322 8 H324H390X01725X11520A07229A06124A14123",
        "323 8 H384H164X03345X01230X11121A07127A08213A23218A25010A24319A25025",
        "400 8 H110X02845A09003A09206A10325",
        "401 8 H313H381X02432A06105A26118A23122",
        "402 8 H233X00614A03128A17302A12223",
        "403 8 H384X01526X03651A00216A10215A34225A37310A27129",
        "410 8 H290X00813A08213A01305A03310",
        "411 8 H172H313X11721A16030A04106A17225",
        "412 8 H152H353X11632X02342A09012A16015A12226",
        "413 8 H344H230X12741X03448X01123A28118A07308A09218A22014A29023",
        "420 8 H282H335X12645A30328A31315A19114",
        "421 8 H194H314X10218A06321A03007A17207",
        "422 8 H335H374X02741X01837X11127A07119A07229A12208",
        "423 8 H334H184X02033X01216X11128X04352A09127A12013A01322A06120"};

    public static void main(String[] args) {
        bestIsMost();
        bestIsEachOfThem();
        bestOfLikeOnes();
        bestAsTheyAre();
        judgeCounts();
        judgeRows();
        judgeSets();
        judgeEnds();
        judgeHowMany();
        judgeOut();
        judgePlaces();
        seen();
        seenNoMore();
        which();
        unseen();
        shares();
        sharesOfOut();
        sharesBelowNothing();
        calm();
        calmAsItIs();
        seeds();
        drawnTimes();
        drawnHours();
        Edges.finish("asked edges");
    }

    private static void best(String when, SoftAsks x, int done, int wasted, int figures) {
        Edges.due(when + ": best(0)", x.best(0), done);
        Edges.due(when + ": best(1)", x.best(1), wasted);
        Edges.due(when + ": best(2)", x.best(2), figures);
    }

    private static void bestIsMost() {
        Edges.sentence("BEST: the POLICY .. by which most ASKS are DONE");
        best("nothing at all", new SoftAsks(), 0, 0, 100);
        best("one try is enough", Edges.of("H110A00001"), 1, 0, 100);
        // bad at 1: a second try is good at 2
        best("two tries", Edges.of("H110X00101A00030"), 1, 0, 200);
        // bad at 1, 2 and 3 at host 0; what the other ask brought pays the fourth try
        best("four tries", Edges.by("H110H110X00103A00030A00030", 2, 8), 2, 0, 400);
        // host 0 is bad at 9; a hedge at 5 is done at 6 by host 1, a work is wasted for it
        best("a hedge, though one is wasted", Edges.of("H190H110X00079A00012"), 1, 1, 110);
        Edges.sentence("how many are DONE by it (what = 0), WORKS that are WASTED (1), which (2: figures). BAD.");
        SoftAsks x = Edges.of("H110A00001");
        Edges.due("best(-1)", x.best(-1), BAD);
        Edges.due("best(3)", x.best(3), BAD);
        Edges.due("best(lowest)", x.best(Edges.LOWEST), BAD);
        Edges.due("best(highest)", x.best(Edges.HIGHEST), BAD);
    }

    /** Each policy is told in turn; the best is found by what is done and wasted then. */
    private static void bestIsEachOfThem() {
        Edges.sentence("(TRIES, HEDGE, BREAKER as three figures; GAIN, SHED as they are) by which most ASKS are DONE");
        Edges.due("policies", BEST.length, 4 * 3 * 4);
        for (String row : BEST) {
            String[] told = row.split(" ");
            SoftAsks x = Edges.of(told[2]);
            x.set(1, Integer.parseInt(told[1]));
            int done = -1, wasted = 0, figures = 0;
            for (int tries = 1; tries <= 4; tries++) {
                x.set(0, tries);
                for (int hedge = 0; hedge <= 2; hedge++) {
                    x.set(2, hedge);
                    for (int breaker = 0; breaker <= 3; breaker++) {
                        x.set(3, breaker);
                        int d = x.total(0), w = x.total(8);
                        if (d > done || (d == done && w < wasted)) {
                            done = d;
                            wasted = w;
                            figures = 100 * tries + 10 * hedge + breaker;
                        }
                    }
                }
            }
            Edges.due("by turns, of " + row, figures, Integer.parseInt(told[0]));
            best(row, x, done, wasted, figures);
        }
    }

    private static void bestOfLikeOnes() {
        Edges.sentence("of like ones by which the fewest WORKS are WASTED; of like ones the least figures");
        // three are wasted and bad at 9: by 1 and by 3 the breaker opens then, and those of 9 are lost instead of wasted
        best("the fewest, by two of them", Edges.of("H390X00079A00001A00001A00001A09001A09001A09001"), 0, 3, 101);
        best("the least of all", Edges.of("H190A00030"), 1, 0, 100);
        best("all alike", Edges.of("H110H110"), 0, 0, 100);
    }

    private static void bestAsTheyAre() {
        Edges.sentence("BEST: OUT, SPANS as they are .. GAIN, SHED as they are");
        SoftAsks x = Edges.of("H110H120X00079A00030");
        // bad at 1 and at 2 by host 0; host 0 out: good at 2 by host 1
        Edges.due("none OUT", x.best(0), 0);
        x.turn(0);
        best("0 OUT", x, 1, 0, 100);
        x.turn(1);
        best("both OUT", x, 0, 0, 100);
        // ask 0 can't be done in its eight ticks; by SHED 1 the other one takes its place
        x = Edges.of("H190A00008A00330");
        Edges.due("SHED 0", x.best(0), 0);
        x.set(4, 1);
        Edges.due("SHED 1", x.best(0), 1);
        // bad at 1: with GAIN 0 there are 8 for one of the two
        x = Edges.of("H210X00101A00030A00030");
        x.set(1, 0);
        Edges.due("GAIN 0", x.best(0), 1);
        x.set(1, 4);
        Edges.due("GAIN 4", x.best(0), 2);
        // TRIES, HEDGE, BREAKER as they are count for nothing
        x.set(0, 1);
        x.set(2, 2);
        x.set(3, 3);
        best("whatever they are", x, 2, 0, 200);
    }

    private static void judgeCounts() {
        Edges.sentence("n doings (1 .. 4) .. BAD: n");
        SoftAsks x = Edges.of(TWELVE);
        Edges.due("judge(0, ..)", x.judge(0, 0L), BAD);
        Edges.due("judge(1, ..)", x.judge(1, 1001L), NONE);
        Edges.due("judge(2, ..)", x.judge(2, 10011002L), NONE);
        Edges.due("judge(3, ..)", x.judge(3, 100110021003L), NONE);
        Edges.due("judge(4, ..)", x.judge(4, 1001100210031004L), NONE);
        Edges.due("judge(5, ..)", x.judge(5, 1001100210031004L), BAD);
        Edges.due("judge(-1, ..)", x.judge(-1, 1001L), BAD);
        Edges.due("judge(lowest, ..)", x.judge(Edges.LOWEST, 1001L), BAD);
        Edges.due("judge(highest, ..)", x.judge(Edges.HIGHEST, 1001L), BAD);
    }

    private static void judgeRows() {
        Edges.sentence("BAD: .. row (0 or more, 4 n figures at most)");
        SoftAsks x = Edges.of(TWELVE);
        long most = 1;
        for (int n = 1; n <= 4; n++) {
            most *= 10000;
            Edges.due("judge(" + n + ", -1)", x.judge(n, -1L), BAD);
            Edges.due("judge(" + n + ", 0)", x.judge(n, 0L), 0);
            Edges.due("judge(" + n + ", of just so many figures)", x.judge(n, most - 1), 0);
            Edges.due("judge(" + n + ", of a figure more)", x.judge(n, most), BAD);
            Edges.due("judge(" + n + ", lowest)", x.judge(n, Long.MIN_VALUE), BAD);
            Edges.due("judge(" + n + ", highest)", x.judge(n, Long.MAX_VALUE), BAD);
        }
        Edges.due("judge(1, wrapped to 1001)", x.judge(1, (1L << 32) + 1001), BAD);
        Edges.sentence("told as four figures each, the first doing's the highest of row");
        // fewer figures: the first doing is 0
        Edges.due("judge(2, 7012)", x.judge(2, 7012L), 0);
        Edges.due("judge(2, 70120000)", x.judge(2, 70120000L), 1);
        Edges.due("judge(2, 70127012)", x.judge(2, 70127012L), NONE);
    }

    private static void judgeSets() {
        Edges.sentence("1, 0, 0, TRIES; 2, 0, 0, GAIN; 3, 0, 0, HEDGE; 4, 0, 0, BREAKER; 5, 0, 0, SHED: SET");
        SoftAsks x = Edges.of(TWELVE);
        int[] least = {1, 0, 0, 0, 0}, most = {4, 8, 2, 3, 2};
        for (int kind = 1; kind <= 5; kind++) {
            for (int v = 0; v <= 9; v++) {
                boolean can = v >= least[kind - 1] && v <= most[kind - 1];
                Edges.due("judge of " + kind + ", 0, 0, " + v, x.judge(1, kind * 1000L + v), can ? NONE : 0);
            }
            Edges.due("judge of " + kind + ", 1, 0, 1", x.judge(1, kind * 1000L + 101), 0);
            Edges.due("judge of " + kind + ", 0, 1, 1", x.judge(1, kind * 1000L + 11), 0);
        }
        Edges.sentence("the first that can not be");
        Edges.due("judge of 0", x.judge(1, 1L), 0);
        Edges.due("judge of 9", x.judge(1, 9001L), 0);
    }

    private static void judgeEnds() {
        Edges.sentence("6, two figures of an ASK, 2 .. 4: it ENDS by that");
        SoftAsks x = Edges.of(TWELVE);
        Edges.due("ASK 0", x.judge(1, 6002L), NONE);
        Edges.due("ASK 11", x.judge(1, 6112L), NONE);
        Edges.due("ASK 12", x.judge(1, 6122L), 0);
        Edges.due("ASK 99", x.judge(1, 6992L), 0);
        for (int how = 0; how <= 9; how++) {
            Edges.due("by " + how, x.judge(1, 6110L + how), how == 2 ? NONE : 0);
        }
        // one host for all: three are worked at, four are tried again and past their limit, five fail
        x.turn(0);
        x.turn(1);
        x.turn(2);
        int[] ends = {2, 2, 2, 4, 4, 4, 4, 3, 3, 3, 3, 3};
        for (int a = 0; a < 12; a++) {
            for (int how = 1; how <= 5; how++) {
                Edges.due("ASK " + a + " by " + how, x.judge(1, 6000L + 10 * a + how), how == ends[a] ? NONE : 0);
            }
        }
        Edges.due("no such ASK, of none", new SoftAsks().judge(1, 6002L), 0);
        // an ask that is not told has no end, also if it had one on an earlier day
        Edges.write(x, "H110A00001");
        x.day();
        Edges.due("no such ASK any more", x.judge(1, 6012L), 0);
        Edges.due("the only one", x.judge(1, 6002L), NONE);
    }

    private static void judgeHowMany() {
        Edges.sentence("7, 0, two figures: so many ASKS are DONE");
        SoftAsks x = Edges.of(TWELVE);
        Edges.due("12", x.judge(1, 7012L), NONE);
        Edges.due("11", x.judge(1, 7011L), 0);
        Edges.due("13", x.judge(1, 7013L), 0);
        Edges.due("12, with a figure that is not 0", x.judge(1, 7112L), 0);
        Edges.due("none, of none", new SoftAsks().judge(1, 7000L), NONE);
        Edges.due("one, of none", new SoftAsks().judge(1, 7001L), 0);
        Edges.due("none, with a figure that is not 0", new SoftAsks().judge(1, 7100L), 0);
    }

    private static void judgeOut() {
        Edges.sentence("8, a HOST, 0, 1 or 0: it is OUT from then on, or not");
        SoftAsks x = Edges.of(TWELVE);
        for (int h = 0; h <= 9; h++) {
            for (int v = 0; v <= 2; v++) {
                Edges.due("8, " + h + ", 0, " + v, x.judge(1, 8000L + 100 * h + v), h < 4 && v < 2 ? NONE : 0);
            }
            Edges.due("8, " + h + ", 1, 1", x.judge(1, 8011L + 100 * h), 0);
        }
        Edges.due("HOST 0, of none", new SoftAsks().judge(1, 8001L), 0);
        // of twelve each host that is out leaves three fewer
        Edges.due("OUT", x.judge(2, 80017009L), NONE);
        Edges.due("OUT, and another one", x.judge(3, 800183017006L), NONE);
        Edges.due("OUT, though it is", x.judge(3, 800180017009L), NONE);
        Edges.due("OUT, and no more", x.judge(3, 800180007012L), NONE);
        Edges.due("not OUT, as it was", x.judge(2, 80007012L), NONE);
        x.turn(2);
        Edges.due("OUT already", x.judge(1, 7009L), NONE);
        Edges.due("OUT no more", x.judge(2, 82007012L), NONE);
    }

    private static void judgePlaces() {
        Edges.sentence("the place (from 0) of the first that can not be (or is not so), what is ahead of it being done; NONE");
        SoftAsks x = Edges.of(TWELVE);
        Edges.due("the first", x.judge(4, 9000700070007000L), 0);
        Edges.due("the second", x.judge(4, 7012700070007000L), 1);
        Edges.due("the third", x.judge(4, 7012701270007000L), 2);
        Edges.due("the fourth", x.judge(4, 7012701270127000L), 3);
        Edges.due("none", x.judge(4, 7012701270127012L), NONE);
        // with one host left: one try, and ask 3 fails at once; GAIN 8, and even ask 11 is tried again
        x.turn(0);
        x.turn(1);
        x.turn(2);
        Edges.due("as it is", x.judge(2, 60346113L), NONE);
        Edges.due("TRIES 1", x.judge(3, 100160336113L), NONE);
        Edges.due("TRIES 1, not so", x.judge(3, 100160346113L), 1);
        Edges.due("GAIN 8", x.judge(3, 200860346114L), NONE);
        Edges.due("GAIN 8, not so", x.judge(3, 200860346113L), 2);
        Edges.due("behind it, not ahead of it", x.judge(2, 60331001L), 0);
        // it is done for what is told behind it alone: the next call begins anew
        Edges.due("as it is", x.judge(2, 60346113L), NONE);
        Edges.abouts("nothing is changed", x, 3, 2, 2, 0, 1, 0, 7, 3);
    }

    private static void seen() {
        Edges.sentence("SEEN: how many there are. UNKNOWN: ask; BAD: was (0, 1); FULL: 6.");
        SoftAsks x = Edges.of("H110H110A00001A00001");
        Edges.due("none at first", x.about(10), 0);
        Edges.due("see(-1, 0)", x.see(-1, 0), UNKNOWN);
        Edges.due("see(2, 0)", x.see(2, 0), UNKNOWN);
        Edges.due("see(lowest, 0)", x.see(Edges.LOWEST, 0), UNKNOWN);
        Edges.due("see(highest, 0)", x.see(Edges.HIGHEST, 0), UNKNOWN);
        Edges.due("see(0, -1)", x.see(0, -1), BAD);
        Edges.due("see(0, 2)", x.see(0, 2), BAD);
        Edges.due("see(0, lowest)", x.see(0, Edges.LOWEST), BAD);
        Edges.due("see(2, 2)", x.see(2, 2), UNKNOWN);
        Edges.due("none", x.about(10), 0);
        for (int i = 1; i <= 6; i++) {
            Edges.due("see, the " + i + "th", x.see(i % 2, i % 2), i);
        }
        Edges.due("see, the 7th", x.see(0, 0), FULL);
        Edges.due("see, the 7th", x.see(1, 1), FULL);
        Edges.due("see(0, 2), full", x.see(0, 2), BAD);
        Edges.due("see(2, 0), full", x.see(2, 0), UNKNOWN);
        Edges.due("six", x.about(10), 6);
        Edges.due("1 was DONE, 0 was not", x.which(), 1);
        for (int sixth = 0; sixth < 2; sixth++) {
            x = Edges.of("H110H110A00001A00001");
            for (int i = 1; i <= 5; i++) {
                x.see(0, 0);
                Edges.due("ask 0 was not DONE, " + i + " times", x.which(), 1);
            }
            x.see(0, sixth);
            Edges.due("the sixth counts, too", x.which(), sixth == 0 ? 1 : 0);
        }
        Edges.due("of no ASKS", new SoftAsks().see(0, 0), UNKNOWN);
        Edges.due("the last of twelve", Edges.of(TWELVE).see(11, 1), 1);
        Edges.due("one more than twelve", Edges.of(TWELVE).see(12, 1), UNKNOWN);
    }

    private static void seenNoMore() {
        Edges.sentence("or was not (0; also if there is no such ASK any more)");
        SoftAsks x = Edges.of(TWELVE);
        x.see(11, 0);
        // ask 11 is at host 3
        Edges.due("the twelfth was not DONE", x.which(), 8);
        Edges.write(x, "H110H110A00001");
        x.day();
        Edges.due("there is none any more, and it was not DONE", x.which(), 3);
        x.unsee();
        Edges.write(x, TWELVE);
        x.day();
        x.see(11, 1);
        Edges.due("the twelfth was DONE", x.which(), 7);
        Edges.write(x, "H110H110A00001");
        x.day();
        Edges.due("there is none any more, and it was DONE", x.which(), 0);
        Edges.due("SEEN stays", x.about(10), 1);
    }

    private static void which() {
        Edges.sentence("WHICH: HOSTS by which all that is SEEN is so, as bits");
        Edges.due("no HOSTS", new SoftAsks().which(), 0);
        for (int hosts = 1; hosts <= 4; hosts++) {
            Edges.due("nothing SEEN, " + hosts, Edges.of("H110".repeat(hosts)).which(), (1 << hosts) - 1);
        }
        // each ask at its own host, with one tick: done if that host is not the spoilt one
        SoftAsks x = Edges.of("H110H110H110H110A00001A00001A00001A00001");
        x.see(1, 1);
        Edges.due("1 was DONE", x.which(), 13);
        x.see(3, 1);
        Edges.due("3 was DONE", x.which(), 5);
        x.see(2, 0);
        Edges.due("2 was not", x.which(), 4);
        x.see(0, 0);
        Edges.due("nor was 0", x.which(), 0);
        Edges.sentence("when just one HOST was SPOILT at all TICKS (SPANS set aside)");
        x = Edges.of("H110H110X00079A00001");
        x.see(0, 1);
        Edges.due("its SPAN is set aside", x.which(), 2);
        // the last tick at which a work can end
        x = Edges.of("H110H110A40001");
        x.see(0, 0);
        Edges.due("SPOILT at 41", x.which(), 1);
        Edges.sentence("SEEN, CALM: .. OUT, THE POLICY are as they are");
        x = Edges.of("H110H110A00002");
        x.see(0, 0);
        Edges.due("none OUT", x.which(), 1);
        x.turn(0);
        Edges.due("0 OUT", x.which(), 2);
        // with host 0 spoilt a second try comes too late; a hedge at 5 is done by host 1
        x = Edges.of("H190H110A00012");
        x.see(0, 1);
        Edges.due("HEDGE 0", x.which(), 2);
        x.set(2, 1);
        Edges.due("HEDGE 1", x.which(), 3);
    }

    private static void unseen() {
        Edges.sentence("Nothing is SEEN: how much there was.");
        SoftAsks x = Edges.of("H110A00001");
        Edges.due("none", x.unsee(), 0);
        x.see(0, 0);
        Edges.due("one", x.unsee(), 1);
        Edges.due("none again", x.unsee(), 0);
        Edges.due("nothing is SEEN", x.about(10), 0);
        for (int i = 0; i < 6; i++) {
            x.see(0, 1);
        }
        Edges.due("WHICH", x.which(), 0);
        Edges.due("six", x.unsee(), 6);
        Edges.due("WHICH", x.which(), 1);
        Edges.due("there is room again", x.see(0, 0), 1);
        Edges.due("what was SEEN is gone", x.which(), 1);
    }

    private static void share(String when, SoftAsks x, int host, int above, int below) {
        Edges.due(when + ": share(" + host + ", true)", x.share(host, true), above);
        Edges.due(when + ": share(" + host + ", false)", x.share(host, false), below);
    }

    private static void shares() {
        Edges.sentence("by how many more ASKS are DONE in the mean when it has come: a FRACTION");
        share("nothing to do", Edges.of("H110"), 0, 0, 1);
        share("one HOST", Edges.of("H110A00001"), 0, 1, 1);
        share("nothing by it", Edges.of("H120A00001"), 0, 0, 1);
        // the one that comes first does it
        String ask = "A00001";
        for (int hosts = 1; hosts <= 4; hosts++) {
            for (int h = 0; h < hosts; h++) {
                share("one ASK, " + hosts + " HOSTS", Edges.of("H110".repeat(hosts) + ask), h, 1, hosts);
            }
        }
        share("two ASKS, four HOSTS", Edges.of("H110H110H110H110" + ask + ask), 2, 1, 2);
        share("three ASKS, four HOSTS", Edges.of("H110H110H110H110" + ask + ask + ask), 2, 3, 4);
        share("twelve ASKS, four HOSTS", Edges.of(TWELVE), 3, 3, 1);
        // host 0 has two workers: it brings two of three if first or second, else what is left of three
        SoftAsks x = Edges.of("H210H110H110" + ask + ask + ask);
        share("two WORKERS", x, 0, 5, 3);
        share("one WORKER", x, 1, 2, 3);
        Edges.sentence("SHARE. UNKNOWN");
        Edges.due("share(-1)", x.share(-1, true), UNKNOWN);
        Edges.due("share(3)", x.share(3, true), UNKNOWN);
        Edges.due("share(3)", x.share(3, false), UNKNOWN);
        Edges.due("share(lowest)", x.share(Edges.LOWEST, true), UNKNOWN);
        Edges.due("share(highest)", x.share(Edges.HIGHEST, false), UNKNOWN);
        Edges.due("share(32)", x.share(32, true), UNKNOWN);
        Edges.due("of no HOSTS", new SoftAsks().share(0, true), UNKNOWN);
        Edges.sentence("SHARE: SPANS, THE POLICY as they are");
        // bad at 1 by host 0: it is done at 2 with two tries
        x = Edges.of("H110X00101A00030");
        share("TRIES 2", x, 0, 1, 1);
        x.set(0, 1);
        share("TRIES 1", x, 0, 0, 1);
    }

    private static void sharesOfOut() {
        Edges.sentence("HOSTS that are not OUT come one by one .. LATE: it is OUT");
        SoftAsks x = Edges.of("H110H110H110H110A00001");
        x.turn(1);
        Edges.due("share(1, true)", x.share(1, true), LATE);
        Edges.due("share(1, false)", x.share(1, false), LATE);
        share("three come", x, 0, 1, 3);
        x.turn(3);
        share("two come", x, 2, 1, 2);
        x.turn(0);
        share("one comes", x, 2, 1, 1);
        x.turn(2);
        Edges.due("none comes", x.share(2, true), LATE);
        x.turn(1);
        share("it is OUT no more", x, 1, 1, 1);
    }

    private static void sharesBelowNothing() {
        Edges.sentence("FRACTIONS are told above (upper = true; less than 0, if they are), below, in least terms");
        // host 0 is spoilt and takes the ask where it is: it spoils it unless it comes first
        SoftAsks x = Edges.of("H110H110H110H110X00079A00001");
        share("spoilt", x, 0, -3, 4);
        share("not spoilt", x, 1, 1, 4);
        x.turn(3);
        share("spoilt, of three", x, 0, -2, 3);
        x.turn(2);
        share("spoilt, of two", x, 0, -1, 2);
        x.turn(1);
        share("spoilt, alone", x, 0, 0, 1);
    }

    private static void calm(String when, SoftAsks x, int tenths, int above, int below) {
        Edges.due(when + ": calm(" + tenths + ", true)", x.calm(tenths, true), above);
        Edges.due(when + ": calm(" + tenths + ", false)", x.calm(tenths, false), below);
    }

    private static void calm() {
        Edges.sentence("SPOILT at all TICKS by x tenths (0 .. 10), else at none, by itself: that all ASKS are DONE: a FRACTION");
        SoftAsks x = Edges.of("H110A00001");
        int[] none = {-1, 11, Edges.LOWEST, Edges.HIGHEST};
        for (int tenths : none) {
            Edges.due("calm(" + tenths + ", true)", x.calm(tenths, true), BAD);
            Edges.due("calm(" + tenths + ", false)", x.calm(tenths, false), BAD);
        }
        int[] above = {1, 9, 4, 7, 3, 1, 2, 3, 1, 1, 0}, below = {1, 10, 5, 10, 5, 2, 5, 10, 5, 10, 1};
        for (int tenths = 0; tenths <= 10; tenths++) {
            calm("one HOST", x, tenths, above[tenths], below[tenths]);
        }
        // four asks at four hosts: all four must not be spoilt
        x = Edges.of("H110H110H110H110A00001A00001A00001A00001");
        calm("four HOSTS", x, 0, 1, 1);
        calm("four HOSTS", x, 1, 6561, 10000);
        calm("four HOSTS", x, 3, 2401, 10000);
        calm("four HOSTS", x, 5, 1, 16);
        calm("four HOSTS", x, 9, 1, 10000);
        calm("four HOSTS", x, 10, 0, 1);
        calm("no HOSTS, no ASKS", new SoftAsks(), 10, 1, 1);
        calm("no ASKS", Edges.of("H110H110"), 10, 1, 1);
        calm("no HOSTS", Edges.of("A00001"), 0, 0, 1);
        // by the first copy at host 0, or by the hedge at 5 at host 1: one of the two is enough
        x = Edges.by("H190H110A00012", 1, 2, 1);
        calm("either of two", x, 5, 3, 4);
        calm("either of two", x, 1, 99, 100);
        calm("either of two", x, 10, 0, 1);
    }

    private static void calmAsItIs() {
        Edges.sentence("all SPANS are set aside, the HOSTS named are SPOILT at all TICKS, the others at none; OUT .. as they are");
        SoftAsks x = Edges.of("H110H110X00079X10079A00001");
        calm("SPANS set aside", x, 2, 4, 5);
        x.turn(0);
        calm("0 OUT", x, 2, 4, 5);
        x.turn(1);
        calm("both OUT", x, 0, 0, 1);
        x = Edges.of("H110H110A00001A00001");
        calm("both are needed", x, 2, 16, 25);
        x.turn(0);
        calm("one can't do both", x, 0, 0, 1);
    }

    private static void seeds() {
        Edges.sentence("THE SEED is v: what it was (THE SEED, a long; 0 at first)");
        SoftAsks x = new SoftAsks();
        long[] all = {Long.MIN_VALUE, Long.MAX_VALUE, -1L, 0L, 1L << 32, 5L};
        long was = 0L;
        for (long v : all) {
            Edges.due("seed(" + v + ")", x.seed(v), was);
            was = v;
        }
        Edges.due("the last one", x.seed(0L), 5L);
    }

    /** The seed that becomes x when it is drawn by. */
    private static long ahead(long x) {
        return BigInteger.valueOf(x).subtract(PLUS).multiply(TIMES.modInverse(WRAP)).mod(WRAP).longValue();
    }

    private static long next(long seed) {
        return BigInteger.valueOf(seed).multiply(TIMES).add(PLUS).mod(WRAP).longValue();
    }

    private static void drawnTimes() {
        Edges.sentence("m times (1 .. 4) .. How many are DONE, each time, together. .. BAD: m.");
        SoftAsks x = Edges.of("H110A00001A00001");
        int[] none = {0, 5, -1, Edges.LOWEST, Edges.HIGHEST};
        x.seed(42L);
        for (int m : none) {
            Edges.due("drawn(" + m + ")", x.drawn(m), BAD);
        }
        Edges.due("THE SEED stays", x.seed(42L), 42L);
        for (int m = 1; m <= 4; m++) {
            SoftAsks one = Edges.of("H110A00001A00001");
            x.seed(1000L + m);
            one.seed(1000L + m);
            int sum = 0;
            for (int i = 0; i < m; i++) {
                sum += one.drawn(1);
            }
            Edges.due("drawn(" + m + ")", x.drawn(m), sum);
            long seed = 1000L + m;
            for (int i = 0; i < 2 * m; i++) {
                seed = next(seed);
            }
            Edges.due("THE SEED behind drawn(" + m + ")", x.seed(0L), seed);
        }
        Edges.sentence("(Nothing changes but THE SEED.)");
        x = Edges.of("H110A00001A07001");
        x.drawn(4);
        Edges.due("HOURS stay", x.ask(0, 0) * 100 + x.ask(1, 0), 7);
        Edges.due("what is DONE stays", x.total(0), 2);
        x = Edges.of("H110");
        x.seed(8L);
        Edges.due("without ASKS", x.drawn(4), 0);
        Edges.due("without ASKS nothing is DRAWN", x.seed(0L), 8L);
        x = Edges.of("A00001".repeat(12));
        x.seed(8L);
        Edges.due("without HOSTS", x.drawn(1), 0);
        long seed = 8L;
        for (int i = 0; i < 12; i++) {
            seed = next(seed);
        }
        Edges.due("each ASK is DRAWN", x.seed(0L), seed);
    }

    private static void drawnHours() {
        Edges.sentence("has for its HOUR what is DRAWN by 41 .. what is left of its upper 31 bits by it");
        long[] upper = {0, 1, 39, 40, 41, 81, 82, (1L << 30) - 1, 1L << 30, (1L << 31) - 1, (1L << 31) - 42};
        for (long u : upper) {
            for (long low : new long[] {0L, (1L << 33) - 1}) {
                long seed = ahead(u << 33 | low);
                int hour = (int) (u % 41);
                for (int h = 0; h <= 40; h++) {
                    // bad at the tick behind that hour alone
                    SoftAsks x = Edges.of(String.format("H110X0%02d%02dA00001", h + 1, h + 1));
                    x.seed(seed);
                    Edges.due("drawn(1), spoilt behind " + h + ", the hour is " + hour, x.drawn(1), h == hour ? 0 : 1);
                    Edges.due("THE SEED", x.seed(0L), u << 33 | low);
                }
            }
        }
        Edges.sentence("each ASK, 0 first");
        // two draws one after the other: the first is ask 0's; only ask 1 can be done, in one tick and not in two
        long seed = ahead(7L << 33);
        long second = next(7L << 33);
        int hour = (int) ((second >>> 33) % 41);
        Edges.so("the two hours are not alike", hour != 7);
        SoftAsks x = Edges.of(String.format("H110X00808X0%02d%02dA00001A00002", hour + 1, hour + 1));
        x.seed(seed);
        Edges.due("ask 1 is tried again, ask 0 is past its LIMIT", x.drawn(1), 1);
        x = Edges.of("H110X00808A00001A00002");
        x.seed(seed);
        Edges.due("ask 0 is spoilt", x.drawn(1), 1);
        x = Edges.of("H110X00808A00002A00001");
        x.seed(seed);
        Edges.due("ask 0 is tried again", x.drawn(1), 2);
    }
}
