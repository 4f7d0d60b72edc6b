/** The edges that the document names in the promises 10 to 20. */
public final class EdgesOfShelvesTest {
    private static final int GREATEST = Edges.GREATEST;
    private static final Edges.Maker FOUR = Edges.joined();
    private static final Edges.Maker NONE = Edges.unread("");
    /** The last stream has gone again: a ROW has been told, and a text waits. */
    private static final Edges.Maker GONE = Edges.then(Edges.plant("h10-5*2"), x -> x.drops(0));

    public static void main(String[] args) {
        border();
        borderBelowNought();
        fuel();
        pinch();
        carry();
        above();
        level();
        by();
        widest();
        were();
        wereKinds();
        without();
        dearest();
        Edges.ends(10, 20);
    }

    private static void border() {
        Edges.sentence("Promise 10", "SURPLUS of the SHELF behind it (0 of the last one)");
        Edges.asks(FOUR, "border", 0).is(160).row(40, 120, 6, 0);
        Edges.asks(FOUR, "border", 4).is(50).row(150, -30, 3, 4);
        Edges.asks(FOUR, "border", 5).is(20).row(120, 0, 0, 0);
        Edges.sentence("Promise 10", "NoSuchElementException: none such");
        Edges.fails(FOUR, "border", -1);
        Edges.fails(FOUR, "border", 6);
        Edges.refusesFar(FOUR, Edges.THREW, "border", 0, 0);
        Edges.fails(NONE, "border", 0);
        Edges.fails(GONE, "border", 0);
        // As many as there can be: two of each of ten streams.
        Edges.Maker twenty = Edges.plant("h500-490*1,h480-470*1,h460-450*1,h440-430*1,h420-410*1,"
                + "h401-391*1,h381-371*1,h361-351*1,h341-331*1,h321-311*1");
        Edges.asks(twenty, "fuel").is(0).row(100, 20);
        Edges.asks(twenty, "border", 18).is(311).row(90, 10, 1, 0);
        Edges.asks(twenty, "border", 19).is(301).row(100, 0, 0, 0);
        Edges.fails(twenty, "border", 20);
        Edges.asks(Edges.plant("c0-1*1"), "border", 1).is(0).row(0, 0, 0, 0);
        Edges.fails(Edges.plant("c0-1*1"), "border", 2);
    }

    private static void borderBelowNought() {
        Edges.sentence("Promise 10", "BORDER k (it may be below 0): it; the ROW: its CARRY");
        Edges.Maker x = Edges.plant(60, "h61-59*3");
        Edges.asks(x, "border", 0).is(1).row(0, 6, 3, 0);
        Edges.asks(x, "border", 1).is(-1).row(6, 0, 0, 0);
        Edges.Maker y = Edges.plant(60, "h60-0*1");
        Edges.asks(y, "border", 0).is(0).row(0, 60, 1, 0);
        Edges.asks(y, "border", 1).is(-60).row(60, 0, 0, 0);
        Edges.Maker z = Edges.plant(60, "h58-0*1");
        Edges.asks(z, "border", 0).is(-2).row(0, 58, 1, 0);
    }

    private static void fuel() {
        Edges.sentence("Promise 11", "(0, 0, 0 without STREAMS.)");
        Edges.asks(NONE, "fuel").is(0).row(0, 0);
        Edges.asks(GONE, "fuel").is(0).row(0, 0);
        Edges.asks(Edges.plant("c0-1*1"), "fuel").is(1).row(0, 2);
        Edges.asks(Edges.plant("h1-0*1"), "fuel").is(0).row(1, 2);
        Edges.sentence("Promise 11", "FUEL; the ROW: COOL, how many BORDERS there are.");
        // The greatest there can be.
        Edges.asks(Edges.plant("c0-500*20,".repeat(9) + "c0-500*20"), "fuel").is(100000).row(0, 2);
        Edges.asks(Edges.plant("h500-0*20,".repeat(9) + "h500-0*20"), "fuel").is(0).row(100000, 2);
    }

    private static void pinch() {
        Edges.sentence("Promise 12", "-2: there are no STREAMS");
        Edges.refuses(NONE, -2, "pinch");
        Edges.refuses(GONE, -2, "pinch");
        Edges.asks(Edges.plant("c0-1*1"), "pinch").is(1000).row(1000);
        Edges.sentence("Promise 12", "1000 more than the PINCH; the ROW: 1000 more than each of the NOUGHTS, the greatest first");
        Edges.asks(FOUR, "pinch").is(1080).row(1080);
        Edges.asks(Edges.plant("c499-500*1"), "pinch").is(1499).row(1499);
        Edges.asks(Edges.plant(0, "h500-0*1"), "pinch").is(1500).row(1500);
        Edges.asks(Edges.plant(60, "h1-0*1"), "pinch").is(941).row(941);
        Edges.asks(Edges.plant(60, "h60-0*1,c0-1*1"), "pinch").is(1000).row(1000);
        // Nothing is handed on over any border.
        Edges.asks(Edges.plant(0, "h30-0*2,c0-10*2,c10-20*2,c20-30*2"), "pinch").is(1030).row(1030, 1020, 1010, 1000);
        Edges.asks(Edges.plant(0, "h30-0*2,c0-10*2,c11-20*2,c20-30*2"), "pinch").is(1030).row(1030, 1020, 1011);
        Edges.asks(Edges.plant(60, "h30-0*2"), "pinch").is(970).row(970);
    }

    private static void carry() {
        Edges.sentence("Promise 13", "CARRY at a temperature t (of COLD streams, -60 .. 500): 0; the ROW: it");
        int[][] due = {{160, 40}, {159, 46}, {141, 154}, {140, 160}, {139, 161}, {136, 164}, {135, 165}, {134, 162},
            {81, 3}, {80, 0}, {79, 5}, {51, 145}, {50, 150}, {49, 149}, {21, 121}, {20, 120}};
        for (int[] d : due) {
            Edges.asks(FOUR, "carry", d[0]).is(0).row(d[1]);
        }
        Edges.asks(Edges.plant(60, "h60-0*1"), "carry", -60).is(0).row(60);
        Edges.asks(Edges.plant(60, "h60-0*1"), "carry", -59).is(0).row(59);
        Edges.asks(Edges.plant(60, "h60-0*1"), "carry", 0).is(0).row(0);
        Edges.asks(Edges.plant("c499-500*1"), "carry", 500).is(0).row(1);
        Edges.asks(Edges.plant("c499-500*1"), "carry", 499).is(0).row(0);
        Edges.sentence("Promise 13", "-2: it is above BORDER 0, or below the last one, or there are none");
        Edges.refuses(FOUR, -2, "carry", 161);
        Edges.refuses(FOUR, -2, "carry", 500);
        Edges.refuses(FOUR, -2, "carry", 19);
        Edges.refuses(FOUR, -2, "carry", -60);
        Edges.refuses(Edges.plant(60, "h60-0*1"), -2, "carry", 1);
        Edges.refuses(Edges.plant(59, "h60-0*1"), -2, "carry", -60);
        Edges.refuses(Edges.plant("c499-500*1"), -2, "carry", 498);
        Edges.refuses(Edges.plant("c498-499*1"), -2, "carry", 500);
        Edges.refuses(NONE, -2, "carry", 500);
        Edges.refuses(NONE, -2, "carry", -60);
        Edges.refuses(GONE, -2, "carry", 0);
        Edges.sentence("Promise 13", "NONE: another t");
        Edges.refuses(FOUR, -1, "carry", 501);
        Edges.refuses(FOUR, -1, "carry", -61);
        Edges.refusesFar(FOUR, -1, "carry", 0, 0);
        Edges.refuses(NONE, -1, "carry", 501);
        Edges.refuses(NONE, -1, "carry", -61);
    }

    private static void above() {
        Edges.sentence("Promise 14", "how many go through it, or begin or end there");
        int[][] due = {{61, 0, 0}, {60, 0, 1}, {59, 2, 1}, {31, 58, 1}, {30, 60, 1}, {29, 60, 0}};
        for (int[] d : due) {
            Edges.asks(Edges.plant("h60-30*2"), "above", 1, d[0]).is(d[1]).row(d[2]);
            Edges.asks(Edges.plant("c30-60*2"), "above", 0, d[0]).is(d[1]).row(d[2]);
            Edges.asks(Edges.plant("h60-30*2"), "above", 0, d[0]).is(0).row(0);
            Edges.asks(Edges.plant("c30-60*2"), "above", 1, d[0]).is(0).row(0);
        }
        Edges.sentence("Promise 14", "(their own, 0 .. 500)");
        Edges.Maker whole = Edges.plant("h500-0*20,c0-500*20");
        for (int hot = 0; hot < 2; hot++) {
            Edges.asks(whole, "above", hot, 0).is(10000).row(1);
            Edges.asks(whole, "above", hot, 1).is(9980).row(1);
            Edges.asks(whole, "above", hot, 499).is(20).row(1);
            Edges.asks(whole, "above", hot, 500).is(0).row(1);
        }
        Edges.sentence("Promise 14", "NONE: another t");
        for (int hot = 0; hot < 2; hot++) {
            Edges.refuses(whole, -1, "above", hot, -1);
            Edges.refuses(whole, -1, "above", hot, 501);
            Edges.refusesFar(whole, -1, "above", 1, hot, 0);
            Edges.refuses(NONE, -1, "above", hot, -1);
            Edges.refuses(NONE, -1, "above", hot, 501);
        }
    }

    private static void level() {
        Edges.sentence("Promise 15", "above which HOT streams (hot true), COLD ones have just so much heat q, from above: the greatest such");
        Edges.Maker apart = Edges.plant("h100-90*2,h50-0*3,c10-20*3,c30-40*2");
        Edges.asks(apart, "level", 1, 19).is(0).row(181, 2);
        Edges.asks(apart, "level", 1, 20).is(0).row(90, 1);
        Edges.asks(apart, "level", 1, 21).is(0).row(149, 3);
        Edges.asks(apart, "level", 0, 20).is(0).row(30, 1);
        Edges.asks(apart, "level", 0, 21).is(0).row(59, 3);
        // Two that meet: the one ends where the other begins.
        Edges.Maker meet = Edges.plant("h100-90*2,h90-80*5");
        Edges.asks(meet, "level", 1, 19).is(0).row(181, 2);
        Edges.asks(meet, "level", 1, 20).is(0).row(90, 1);
        Edges.asks(meet, "level", 1, 21).is(0).row(449, 5);
        Edges.asks(Edges.plant("h500-0*1"), "level", 1, 1).is(0).row(499, 1);
        Edges.asks(Edges.plant("h500-0*1"), "level", 1, 500).is(0).row(0, 1);
        Edges.sentence("Promise 15", "-2: they have not so much");
        Edges.asks(apart, "level", 1, 169).is(0).row(1, 3);
        Edges.asks(apart, "level", 1, 170).is(0).row(0, 1);
        Edges.refuses(apart, -2, "level", 1, 171);
        Edges.asks(apart, "level", 0, 49).is(0).row(31, 3);
        Edges.asks(apart, "level", 0, 50).is(0).row(10, 1);
        Edges.refuses(apart, -2, "level", 0, 51);
        Edges.refuses(apart, -2, "level", 0, GREATEST);
        Edges.refuses(apart, -2, "level", 1, GREATEST);
        Edges.refuses(NONE, -2, "level", 1, 1);
        Edges.refuses(GONE, -2, "level", 1, 1);
        Edges.refuses(Edges.plant("h9-0*1"), -2, "level", 0, 1);
        Edges.refuses(Edges.plant("c0-9*1"), -2, "level", 1, 1);
        Edges.sentence("Promise 15", "NONE: q is below 1");
        Edges.asks(apart, "level", 1, 1).is(0).row(199, 2);
        Edges.refuses(apart, -1, "level", 1, 0);
        Edges.refuses(apart, -1, "level", 0, -1);
        Edges.refuses(apart, -1, "level", 1, Edges.LEAST);
        Edges.refuses(NONE, -1, "level", 1, 0);
    }

    private static void by() {
        Edges.sentence("Promise 16", "FUEL, were GAP g (0 .. 60): it; the ROW: COOL, PINCH then (1000 more than it)");
        Edges.asks(FOUR, "by", 0).is(0).row(80, 1170);
        Edges.asks(FOUR, "by", 1).is(0).row(80, 1169);
        Edges.asks(FOUR, "by", 9).is(31).row(111, 1080);
        Edges.asks(FOUR, "by", 10).is(40).row(120, 1080);
        Edges.asks(FOUR, "by", 59).is(481).row(561, 1080);
        Edges.asks(FOUR, "by", 60).is(490).row(570, 1080);
        Edges.asks(Edges.plant("h1-0*1"), "by", 60).is(0).row(1, 941);
        Edges.sentence("Promise 16", "-2: there are no STREAMS");
        Edges.refuses(NONE, -2, "by", 0);
        Edges.refuses(NONE, -2, "by", 60);
        Edges.refuses(GONE, -2, "by", 10);
        Edges.sentence("Promise 16", "NONE: another g");
        Edges.refuses(FOUR, -1, "by", -1);
        Edges.refuses(FOUR, -1, "by", 61);
        Edges.refusesFar(FOUR, -1, "by", 0, 0);
        Edges.refuses(NONE, -1, "by", -1);
        Edges.refuses(NONE, -1, "by", 61);
    }

    private static void widest() {
        Edges.sentence("Promise 17", "The greatest GAP (0 .. 60) by which FUEL is f at most: it; the ROW: FUEL by it");
        // From 6 on FUEL is 9 times GAP less 50.
        Edges.asks(FOUR, "widest", 0).is(5).row(0);
        Edges.asks(FOUR, "widest", 3).is(5).row(0);
        Edges.asks(FOUR, "widest", 4).is(6).row(4);
        Edges.asks(FOUR, "widest", 5).is(6).row(4);
        Edges.asks(FOUR, "widest", 39).is(9).row(31);
        Edges.asks(FOUR, "widest", 40).is(10).row(40);
        Edges.asks(FOUR, "widest", 480).is(58).row(472);
        Edges.asks(FOUR, "widest", 481).is(59).row(481);
        Edges.asks(FOUR, "widest", 489).is(59).row(481);
        Edges.asks(FOUR, "widest", 490).is(60).row(490);
        Edges.asks(FOUR, "widest", 491).is(60).row(490);
        Edges.asks(FOUR, "widest", GREATEST).is(60).row(490);
        for (int g = 6; g <= 60; g++) {
            Edges.asks(FOUR, "widest", 9 * g - 50).is(g).row(9 * g - 50);
            Edges.asks(FOUR, "widest", 9 * g - 51).is(g - 1).row(Math.max(0, 9 * g - 59));
        }
        Edges.asks(NONE, "widest", 0).is(60).row(0);
        Edges.sentence("Promise 17", "-2: none");
        Edges.Maker level = Edges.plant("h100-50*2,c50-100*3");
        Edges.refuses(level, -2, "widest", 0);
        Edges.refuses(level, -2, "widest", 49);
        Edges.asks(level, "widest", 50).is(0).row(50);
        Edges.asks(level, "widest", 51).is(0).row(50);
        Edges.asks(level, "widest", 52).is(1).row(52);
        Edges.asks(level, "widest", 149).is(49).row(148);
        Edges.asks(level, "widest", 150).is(60).row(150);
        Edges.sentence("Promise 17", "NONE: f is below 0");
        Edges.refuses(FOUR, -1, "widest", -1);
        Edges.refuses(FOUR, -1, "widest", Edges.LEAST);
        Edges.refuses(NONE, -1, "widest", -1);
        Edges.refuses(level, -1, "widest", -1);
    }

    private static void were() {
        Edges.sentence("Promise 18", "were FROM (what 0), TO (1), CAPACITY (2) of a STREAM v: it; the ROW: COOL then, by how much FUEL would be more");
        Edges.asks(FOUR, "were", 0, 0, 170).is(40).row(120, 0);
        Edges.asks(FOUR, "were", 0, 1, 60).is(40).row(120, 0);
        Edges.asks(FOUR, "were", 0, 2, 6).is(40).row(120, 0);
        Edges.asks(FOUR, "were", 0, 0, 500).is(0).row(2060, -40);
        Edges.asks(FOUR, "were", 0, 1, 0).is(40).row(480, 0);
        Edges.asks(FOUR, "were", 0, 2, 1).is(470).row(0, 430);
        Edges.asks(FOUR, "were", 0, 2, 20).is(0).row(1620, -40);
        Edges.asks(FOUR, "were", 3, 0, 0).is(560).row(0, 520);
        Edges.asks(FOUR, "were", 3, 1, 500).is(2920).row(120, 2880);
        // Of the streams as they are now, not as they were read, nor as a wrong text has them.
        Edges.asks(Edges.then(FOUR, x -> x.sets(0, 2, 20)), "were", 0, 2, 6).is(40).row(120, 40);
        Edges.asks(Edges.then(FOUR, x -> x.sets(0, 2, 5)), "were", 3, 1, 140).is(120).row(90, 0);
        Edges.asks(Edges.then(FOUR, x -> x.drops(0)), "were", 1, 2, 4).is(580).row(0, 0);
        Edges.Maker wrongText = Edges.then(FOUR, x -> {
            Edges.put(x, ",x");
            x.streams();
        });
        Edges.asks(wrongText, "were", 0, 2, 6).is(40).row(120, 0);
        Edges.asks(Edges.then(FOUR, x -> x.were(0, 2, 1)), "were", 3, 1, 140).is(40).row(120, 0);
        Edges.sentence("Promise 18", "NONE: as sets()");
        Edges.refuses(FOUR, -1, "were", -1, 0, 100);
        Edges.refuses(FOUR, -1, "were", 4, 0, 100);
        Edges.refusesFar(FOUR, -1, "were", 0, 0, 0, 100);
        Edges.refuses(FOUR, -1, "were", 0, -1, 10);
        Edges.refuses(FOUR, -1, "were", 0, 3, 10);
        Edges.refusesFar(FOUR, -1, "were", 1, 0, 0, 10);
        Edges.refuses(FOUR, -1, "were", 0, 0, 501);
        Edges.refuses(FOUR, -1, "were", 0, 1, -1);
        Edges.refuses(FOUR, -1, "were", 2, 0, -1);
        Edges.refuses(FOUR, -1, "were", 3, 1, 501);
        Edges.refuses(FOUR, -1, "were", 0, 2, 0);
        Edges.refuses(FOUR, -1, "were", 0, 2, 21);
        for (int what = 0; what < 3; what++) {
            Edges.refusesFar(FOUR, -1, "were", 2, 0, what, 0);
        }
    }

    private static void wereKinds() {
        Edges.sentence("Promise 18", "-3: it would not be HOT, or COLD, as it is");
        Edges.asks(FOUR, "were", 0, 0, 61).is(574).row(0, 534);
        Edges.refuses(FOUR, -3, "were", 0, 0, 60);
        Edges.refuses(FOUR, -3, "were", 0, 0, 59);
        Edges.asks(FOUR, "were", 0, 1, 169).is(574).row(0, 534);
        Edges.refuses(FOUR, -3, "were", 0, 1, 170);
        Edges.refuses(FOUR, -3, "were", 0, 1, 171);
        Edges.asks(FOUR, "were", 3, 0, 139).is(0).row(552, -40);
        Edges.refuses(FOUR, -3, "were", 3, 0, 140);
        Edges.refuses(FOUR, -3, "were", 3, 0, 141);
        Edges.asks(FOUR, "were", 3, 1, 81).is(0).row(552, -40);
        Edges.refuses(FOUR, -3, "were", 3, 1, 80);
        Edges.refuses(FOUR, -3, "were", 3, 1, 79);
        Edges.refuses(FOUR, -3, "were", 3, 1, 0);
        Edges.refuses(FOUR, -3, "were", 0, 1, 500);
    }

    private static void without() {
        Edges.sentence("Promise 19", "FUEL without a STREAM: it; the ROW: COOL then, by how much FUEL would be more (below 0: less)");
        Edges.asks(FOUR, "without", 0).is(580).row(0, 540);
        Edges.asks(FOUR, "without", 3).is(0).row(560, -40);
        Edges.asks(Edges.plant("c0-10*3"), "without", 0).is(0).row(0, -30);
        Edges.asks(Edges.plant("h10-0*3"), "without", 0).is(0).row(0, 0);
        Edges.asks(Edges.then(FOUR, x -> x.drops(3)), "without", 0).is(100).row(0, 100);
        Edges.asks(Edges.then(FOUR, x -> x.without(1)), "without", 0).is(580).row(0, 540);
        Edges.asks(Edges.then(FOUR, x -> x.sets(2, 2, 3)), "without", 2).is(0).row(540, 0);
        Edges.sentence("Promise 19", "NONE: no such STREAM");
        Edges.refuses(FOUR, -1, "without", -1);
        Edges.refuses(FOUR, -1, "without", 4);
        Edges.refusesFar(FOUR, -1, "without", 0, 0);
        Edges.refuses(NONE, -1, "without", 0);
        Edges.refuses(GONE, -1, "without", 0);
        Edges.Maker ten = Edges.plant("c0-1*1,".repeat(9) + "c0-1*2");
        Edges.asks(ten, "without", 9).is(9).row(0, -2);
        Edges.refuses(ten, -1, "without", 10);
    }

    private static void dearest() {
        Edges.sentence("Promise 20", "The STREAM without which FUEL would be least (of equal ones the first): it; the ROW: FUEL then");
        Edges.asks(FOUR, "dearest").is(2).row(0);
        Edges.asks(Edges.plant("c0-10*1,c0-9*1"), "dearest").is(0).row(9);
        Edges.asks(Edges.plant("c0-10*1,c0-10*1"), "dearest").is(0).row(10);
        Edges.asks(Edges.plant("c0-10*1,c0-11*1"), "dearest").is(1).row(10);
        Edges.asks(Edges.plant("c0-1*1,".repeat(9) + "c0-1*2"), "dearest").is(9).row(9);
        Edges.asks(Edges.plant("h10-0*3"), "dearest").is(0).row(0);
        // FUEL is 0 already: without a hot one it would be more, without a cold one no less.
        Edges.asks(Edges.plant(0, "h20-10*2,h20-10*3,c0-10*5"), "dearest").is(2).row(0);
        Edges.asks(Edges.plant(0, "h20-10*3,h20-10*2,c0-1*5,c1-10*5"), "dearest").is(2).row(0);
        Edges.sentence("Promise 20", "-2: there are no STREAMS");
        Edges.refuses(NONE, -2, "dearest");
        Edges.refuses(GONE, -2, "dearest");
    }
}
