/** The edges that the document names in the promises 33 to 37. */
public final class EdgesOfLoopsTest {
    private static final Edges.Maker NONE = Edges.unread("");
    private static final Edges.Maker JOINED = Edges.joined();
    /** All below the pinch at 100, each width 60: 200 heat of each hot stream, 160 of each cold one. */
    private static final Edges.Maker SQUARE = Edges.plant(0, "h100-50*4,h100-50*4,c0-40*4,c0-40*4");
    private static final Edges.Maker SIX =
            Edges.plant(0, "h100-50*4,h100-50*4,h100-50*4,c0-40*4,c0-40*4,c0-40*4");
    private static final Edges.Maker TEN = Edges.plant(0, "h100-50*4,".repeat(5) + "c0-40*4,".repeat(4) + "c0-40*4");

    public static void main(String[] args) {
        loops();
        loopsParts();
        loopNone();
        loopFewest();
        loopFirst();
        loopLongest();
        breaksNone();
        breaksLoads();
        breaksBelowNought();
        breaksWidths();
        count();
        countRow();
        row();
        Edges.ends(33, 37);
    }

    /** Matches of a load each: hot stream, cold one, hot, cold, .. */
    private static Edges.Maker ofLoad(Edges.Maker first, int load, int... pairs) {
        return Edges.then(first, x -> {
            for (int k = 0; k + 1 < pairs.length; k += 2) {
                x.joins(1, pairs[k], pairs[k + 1], load);
            }
        });
    }

    /** Matches: hot stream, cold one, load, hot, cold, load, .. */
    private static Edges.Maker with(Edges.Maker first, int... matches) {
        return Edges.then(first, x -> {
            for (int k = 0; k + 2 < matches.length; k += 3) {
                x.joins(1, matches[k], matches[k + 1], matches[k + 2]);
            }
        });
    }

    private static Edges.Maker parallel(int many) {
        return Edges.then(SQUARE, x -> {
            for (int k = 0; k < many; k++) {
                x.joins(1, 0, 2, 1);
            }
        });
    }

    /** JOINED has two on each side. */
    private static void noMatch(String name) {
        for (int side = 0; side < 2; side++) {
            Edges.refuses(JOINED, -1, name, side, -1);
            Edges.refuses(JOINED, -1, name, side, 2);
            Edges.refusesFar(JOINED, -1, name, 1, side, 0);
        }
        Edges.refuses(JOINED, -1, name, -1, 0);
        Edges.refuses(JOINED, -1, name, 2, 0);
        Edges.refusesFar(JOINED, -1, name, 0, 0, 0);
        Edges.refuses(SQUARE, -1, name, 0, 0);
        Edges.refuses(SQUARE, -1, name, 1, 0);
        Edges.refuses(parallel(24), -1, name, 1, 24);
        Edges.refuses(parallel(24), -1, name, 0, 0);
    }

    // ---- promise 33

    private static void loops() {
        Edges.sentence("Promise 33", "MATCHES less STREAMS that have one, and parts in which these hang together by MATCHES; the ROW: MATCHES, such STREAMS, parts");
        Edges.asks(NONE, "loops", 1).is(0).row(0, 0, 0);
        Edges.asks(SQUARE, "loops", 1).is(0).row(0, 0, 0);
        Edges.asks(ofLoad(SQUARE, 10, 0, 2), "loops", 1).is(0).row(1, 2, 1);
        Edges.asks(ofLoad(SQUARE, 10, 0, 2), "loops", 0).is(0).row(0, 0, 0);
        Edges.asks(ofLoad(SQUARE, 10, 0, 2, 1, 3), "loops", 1).is(0).row(2, 4, 2);
        Edges.asks(ofLoad(SQUARE, 10, 0, 2, 1, 3, 1, 2), "loops", 1).is(0).row(3, 4, 1);
        Edges.asks(ofLoad(SQUARE, 10, 0, 2, 1, 3, 1, 2, 0, 3), "loops", 1).is(1).row(4, 4, 1);
        Edges.asks(ofLoad(SQUARE, 10, 0, 2, 0, 2), "loops", 1).is(1).row(2, 2, 1);
        Edges.asks(parallel(24), "loops", 1).is(23).row(24, 2, 1);
        // A load of 1 is enough for a stream to have a match.
        Edges.asks(ofLoad(SQUARE, 1, 0, 2), "loops", 1).is(0).row(1, 2, 1);
        Edges.asks(ofLoad(SQUARE, 1, 0, 2, 1, 3, 1, 2, 0, 3), "loops", 1).is(1).row(4, 4, 1);
        // Asked again, and behind a question for a loop.
        Edges.Maker again = ofLoad(SQUARE, 10, 0, 2, 1, 3);
        Edges.asks(Edges.then(again, x -> x.loops(1)), "loops", 1).is(0).row(2, 4, 2);
        Edges.asks(Edges.then(again, x -> x.loop(1, 1)), "loops", 1).is(0).row(2, 4, 2);
        Edges.asks(JOINED, "loops", 0).is(0).row(2, 4, 2);
        Edges.asks(JOINED, "loops", 1).is(0).row(2, 3, 1);
        Edges.sentence("Promise 33", "NONE: no such SIDE");
        Edges.refuses(JOINED, -1, "loops", -1);
        Edges.refuses(JOINED, -1, "loops", 2);
        Edges.refusesFar(JOINED, -1, "loops", 0, 0);
        Edges.refuses(NONE, -1, "loops", 2);
    }

    private static void loopsParts() {
        Edges.sentence("Promise 33", "parts in which these hang together by MATCHES");
        Edges.asks(ofLoad(TEN, 10, 0, 5, 1, 6, 2, 7, 3, 8, 4, 9), "loops", 1).is(0).row(5, 10, 5);
        Edges.asks(ofLoad(TEN, 10, 0, 5, 1, 6, 2, 7, 3, 8, 4, 9, 0, 6), "loops", 1).is(0).row(6, 10, 4);
        Edges.asks(ofLoad(TEN, 10, 0, 5, 1, 6, 2, 7, 3, 8, 4, 9, 0, 6, 2, 8, 1, 7, 4, 8), "loops", 1).is(0).row(9, 10, 1);
        Edges.asks(ofLoad(TEN, 10, 0, 5, 1, 6, 2, 7, 3, 8, 4, 9, 0, 6, 2, 8, 1, 7, 4, 8, 4, 5), "loops", 1).is(1).row(10, 10, 1);
        // A loop in each of two parts.
        Edges.asks(ofLoad(TEN, 10, 0, 5, 0, 5, 1, 6, 1, 6), "loops", 1).is(2).row(4, 4, 2);
    }

    // ---- promise 34

    private static void loopNone() {
        Edges.sentence("Promise 34", "-2: there is none");
        Edges.refuses(ofLoad(SQUARE, 10, 0, 2), -2, "loop", 1, 0);
        Edges.Maker chain = ofLoad(SQUARE, 10, 0, 2, 1, 2, 1, 3);
        for (int i = 0; i < 3; i++) {
            Edges.refuses(chain, -2, "loop", 1, i);
        }
        // Hangs on a loop, but is not on it: by its cold stream, by its hot one.
        Edges.Maker cold = ofLoad(SIX, 10, 0, 3, 1, 3, 1, 4, 0, 4, 2, 3);
        Edges.asks(cold, "loop", 1, 0).is(4).row(0, 1, 2, 3);
        Edges.refuses(cold, -2, "loop", 1, 4);
        Edges.Maker hot = ofLoad(SIX, 10, 0, 3, 1, 3, 1, 4, 0, 4, 0, 5);
        Edges.refuses(hot, -2, "loop", 1, 4);
        // Lies between two loops.
        Edges.Maker between = ofLoad(SIX, 10, 0, 3, 0, 3, 0, 4, 1, 4, 1, 4);
        Edges.refuses(between, -2, "loop", 1, 2);
        Edges.asks(between, "loop", 1, 3).is(2).row(3, 4);
        // Gone again.
        Edges.refuses(Edges.then(ofLoad(SQUARE, 10, 0, 2, 0, 2), x -> x.leaves(1, 0)), -2, "loop", 1, 0);
        Edges.refuses(JOINED, -2, "loop", 0, 0);
        Edges.refuses(JOINED, -2, "loop", 0, 1);
        Edges.refuses(JOINED, -2, "loop", 1, 0);
        Edges.sentence("Promise 34", "NONE: none such");
        noMatch("loop");
    }

    private static void loopFewest() {
        Edges.sentence("Promise 34", "(it has its COLD one with the second, its HOT one with the last)");
        Edges.Maker square = ofLoad(SQUARE, 10, 0, 2, 1, 2, 1, 3, 0, 3);
        Edges.asks(square, "loop", 1, 0).is(4).row(0, 1, 2, 3);
        Edges.asks(square, "loop", 1, 1).is(4).row(1, 0, 3, 2);
        Edges.asks(square, "loop", 1, 2).is(4).row(2, 3, 0, 1);
        Edges.asks(square, "loop", 1, 3).is(4).row(3, 2, 1, 0);
        Edges.sentence("Promise 34", "the one of the fewest");
        // Two, although four have lesser numbers; four, although six have.
        Edges.Maker two = ofLoad(SQUARE, 10, 0, 2, 1, 2, 1, 3, 0, 3, 0, 2);
        Edges.asks(two, "loop", 1, 0).is(2).row(0, 4);
        Edges.asks(two, "loop", 1, 4).is(2).row(4, 0);
        Edges.asks(two, "loop", 1, 2).is(4).row(2, 3, 0, 1);
        Edges.Maker six = ofLoad(SIX, 10, 0, 3, 1, 3, 1, 4, 2, 4, 2, 5, 0, 5);
        Edges.asks(six, "loop", 1, 0).is(6).row(0, 1, 2, 3, 4, 5);
        Edges.Maker four = ofLoad(SIX, 10, 0, 3, 1, 3, 1, 4, 2, 4, 2, 5, 0, 5, 0, 4);
        Edges.asks(four, "loop", 1, 0).is(4).row(0, 1, 2, 6);
        Edges.asks(four, "loop", 1, 4).is(4).row(4, 5, 6, 3);
    }

    private static void loopFirst() {
        Edges.sentence("Promise 34", "of these the first, MATCH by MATCH the least number: how many; the ROW: they");
        Edges.asks(parallel(3), "loop", 1, 0).is(2).row(0, 1);
        Edges.asks(parallel(3), "loop", 1, 1).is(2).row(1, 0);
        Edges.asks(parallel(3), "loop", 1, 2).is(2).row(2, 0);
        Edges.asks(parallel(24), "loop", 1, 23).is(2).row(23, 0);
        // Twice the same two, at each place but the first: the least number of each.
        Edges.Maker twice = ofLoad(SQUARE, 10, 0, 2, 1, 2, 1, 2, 1, 3, 1, 3, 0, 3, 0, 3);
        Edges.asks(twice, "loop", 1, 0).is(4).row(0, 1, 3, 5);
        // The second counts ahead of the third: 1 and 5 come ahead of 2 and 4.
        Edges.Maker third = ofLoad(SIX, 10, 0, 3, 1, 3, 2, 3, 0, 4, 2, 4, 1, 4);
        Edges.asks(third, "loop", 1, 0).is(4).row(0, 1, 5, 3);
        Edges.Maker other = ofLoad(SIX, 10, 0, 3, 2, 3, 1, 3, 0, 4, 1, 4, 2, 4);
        Edges.asks(other, "loop", 1, 0).is(4).row(0, 1, 5, 3);
    }

    private static void loopLongest() {
        Edges.sentence("Promise 34", "no stream being met twice");
        Edges.Maker ten = ofLoad(TEN, 10, 0, 5, 0, 6, 1, 6, 1, 7, 2, 7, 2, 8, 3, 8, 3, 9, 4, 9);
        for (int i = 0; i < 9; i++) {
            Edges.refuses(ten, -2, "loop", 1, i);
        }
        Edges.Maker closed = ofLoad(ten, 10, 4, 5);
        Edges.asks(closed, "loop", 1, 9).is(10).row(9, 0, 1, 2, 3, 4, 5, 6, 7, 8);
        Edges.asks(closed, "loop", 1, 0).is(10).row(0, 9, 8, 7, 6, 5, 4, 3, 2, 1);
        Edges.asks(closed, "loop", 1, 5).is(10).row(5, 6, 7, 8, 9, 0, 1, 2, 3, 4);
    }

    // ---- promise 35

    private static void breaksNone() {
        Edges.sentence("Promise 35", "-2: there is no LOOP");
        Edges.refuses(ofLoad(SQUARE, 10, 0, 2), -2, "breaks", 1, 0);
        Edges.refuses(ofLoad(SQUARE, 10, 0, 2, 1, 2, 1, 3), -2, "breaks", 1, 1);
        Edges.refuses(ofLoad(SIX, 10, 0, 3, 1, 3, 1, 4, 0, 4, 2, 3), -2, "breaks", 1, 4);
        Edges.refuses(JOINED, -2, "breaks", 0, 1);
        Edges.sentence("Promise 35", "NONE: none such");
        noMatch("breaks");
    }

    private static void breaksLoads() {
        Edges.sentence("Promise 35", "it goes, the second one gets as much more, the third one has as much less, and so on");
        Edges.does(with(SQUARE, 0, 2, 10, 1, 2, 20, 1, 3, 30, 0, 3, 40), "breaks", 1, 0).is(3).rowStays()
                .matches("1:1+2*30 1:1+3*20 1:0+3*50");
        Edges.does(with(SQUARE, 0, 2, 10, 1, 2, 20, 1, 3, 30, 0, 3, 40), "breaks", 1, 1).is(3).rowStays()
                .becomes(with(SQUARE, 0, 2, 30, 1, 3, 50, 0, 3, 20));
        Edges.does(with(SQUARE, 0, 2, 10, 0, 2, 20), "breaks", 1, 0).is(1).rowStays().becomes(with(SQUARE, 0, 2, 30));
        Edges.does(with(SQUARE, 0, 2, 10, 0, 2, 20), "breaks", 1, 1).is(1).rowStays().becomes(with(SQUARE, 0, 2, 30));
        Edges.does(parallel(24), "breaks", 1, 23).is(23).rowStays()
                .becomes(Edges.then(with(SQUARE, 0, 2, 2), x -> {
                    for (int k = 1; k < 23; k++) {
                        x.joins(1, 0, 2, 1);
                    }
                }));
        Edges.sentence("Promise 35", "those left with a LOAD of 0 go, too: how many MATCHES are left");
        Edges.does(with(SQUARE, 0, 2, 10, 1, 2, 20, 1, 3, 11, 0, 3, 40), "breaks", 1, 0).is(3).rowStays()
                .becomes(with(SQUARE, 1, 2, 30, 1, 3, 1, 0, 3, 50));
        Edges.does(with(SQUARE, 0, 2, 10, 1, 2, 20, 1, 3, 10, 0, 3, 40), "breaks", 1, 0).is(2).rowStays()
                .becomes(with(SQUARE, 1, 2, 30, 0, 3, 50));
        // Those that stay are numbered anew, among them one that is not on the loop.
        Edges.does(with(SIX, 0, 3, 10, 2, 5, 7, 1, 3, 20, 1, 4, 10, 0, 4, 40), "breaks", 1, 0).is(3).rowStays()
                .becomes(with(SIX, 2, 5, 7, 1, 3, 30, 0, 4, 50));
        Edges.does(ofLoad(TEN, 10, 0, 5, 0, 6, 1, 6, 1, 7, 2, 7, 2, 8, 3, 8, 3, 9, 4, 9, 4, 5), "breaks", 1, 9).is(5).rowStays()
                .matches("1:0+5*20 1:1+6*20 1:2+7*20 1:3+8*20 1:4+9*20");
    }

    private static void breaksBelowNought() {
        Edges.sentence("Promise 35", "-3: a LOAD would be below 0 (the ROW: the first such in the LOOP)");
        Edges.does(with(SQUARE, 0, 2, 10, 1, 2, 20, 1, 3, 9, 0, 3, 40), "breaks", 1, 0).is(-3).row(2).restStays();
        // The loop is 0, 3, 2, 4, 1, 5: what 2 and 1 have becomes less.
        int[] six = {0, 3, 10, 1, 4, 10, 2, 5, 10, 2, 3, 10, 1, 5, 10, 0, 4, 10};
        Edges.asks(with(SIX, six), "loop", 1, 0).is(6).row(0, 3, 2, 4, 1, 5);
        Edges.does(with(SIX, six), "breaks", 1, 0).is(3).rowStays().matches("1:2+3*20 1:1+5*20 1:0+4*20");
        Edges.does(sixOf(six, 9, 10), "breaks", 1, 0).is(-3).row(1).restStays();
        Edges.does(sixOf(six, 10, 9), "breaks", 1, 0).is(-3).row(2).restStays();
        Edges.does(sixOf(six, 9, 9), "breaks", 1, 0).is(-3).row(2).restStays();
        Edges.does(sixOf(six, 1, 1), "breaks", 1, 0).is(-3).row(2).restStays();
        Edges.does(sixOf(six, 11, 10), "breaks", 1, 0).is(4).rowStays();
    }

    /** The same with other loads of the matches 1 and 2. */
    private static Edges.Maker sixOf(int[] six, int loadOfOne, int loadOfTwo) {
        int[] given = six.clone();
        given[5] = loadOfOne;
        given[8] = loadOfTwo;
        return with(SIX, given);
    }

    /**
     * By breaking 0 the match of 1 and 2 gets 10 more and loses what 0 has on the cold stream. It
     * begins behind the load b, and would keep as long as its own load is not more than that.
     */
    private static Edges.Maker steep(int b, int d) {
        Edges.Maker x = Edges.plant(0, "h100-0*4,h100-0*2,c0-100*4,c0-40*2,h100-0*4");
        return with(x, 0, 2, 10, 4, 2, b, 1, 2, 10, 0, 3, 20, 1, 3, d);
    }

    private static void breaksWidths() {
        Edges.sentence("Promise 35", "-4: some would not KEEP (the ROW: the first such, by the number that it would have)");
        Edges.asks(steep(20, 10), "loop", 1, 0).is(4).row(0, 2, 4, 3);
        Edges.does(steep(21, 10), "breaks", 1, 0).is(3).rowStays().matches("1:4+2*21 1:1+2*20 1:0+3*30");
        Edges.does(steep(20, 10), "breaks", 1, 0).is(3).rowStays().matches("1:4+2*20 1:1+2*20 1:0+3*30");
        Edges.does(steep(19, 10), "breaks", 1, 0).is(-4).row(1).restStays();
        Edges.does(steep(20, 11), "breaks", 1, 0).is(4).rowStays().matches("1:4+2*20 1:1+2*20 1:0+3*30 1:1+3*1");
        Edges.does(steep(19, 11), "breaks", 1, 0).is(-4).row(1).restStays();
        Edges.does(steep(20, 9), "breaks", 1, 0).is(-3).row(4).restStays();
        // -3 ahead of -4.
        Edges.does(steep(19, 9), "breaks", 1, 0).is(-3).row(4).restStays();
        // A loop of two with one of another stream between: 12 at most can be joined there.
        Edges.Maker four = Edges.plant(Edges.FOUR);
        Edges.does(with(four, 0, 2, 4, 1, 2, 6, 0, 2, 4, 1, 2, 6), "breaks", 1, 3).is(3).rowStays()
                .becomes(with(four, 0, 2, 4, 1, 2, 12, 0, 2, 4));
        Edges.does(with(four, 0, 2, 4, 1, 2, 6, 0, 2, 4, 1, 2, 7), "breaks", 1, 3).is(-4).row(1).restStays();
    }

    // ---- promise 36

    private static void count() {
        Edges.sentence("Promise 36", "NONE for another what");
        Edges.Maker x = Edges.then(JOINED, y -> y.leaves(1, 1));
        int[] due = {4, 3, 10, 2, 1, 1020, 940, 4, 6};
        for (int what = 0; what < due.length; what++) {
            Edges.refuses(x, due[what], "count", what);
        }
        Edges.refuses(x, -1, "count", -1);
        Edges.refuses(x, -1, "count", 9);
        Edges.refusesFar(x, -1, "count", 0, 0);
        Edges.sentence("Promise 36", "What 0: STREAMS, 1: HOT ones (bits), 2: GAP, 3: MATCHES ABOVE, 4: BELOW");
        Edges.refuses(Edges.plant("h1-0*1,".repeat(9) + "h1-0*1"), 1023, "count", 1);
        Edges.refuses(Edges.plant("c0-1*1,".repeat(9) + "h1-0*1"), 512, "count", 1);
        Edges.refuses(Edges.plant("c0-1*1,".repeat(9) + "c0-1*1"), 0, "count", 1);
        Edges.refuses(Edges.plant("h1-0*1,".repeat(9) + "h1-0*1"), 10, "count", 0);
        Edges.refuses(Edges.plant(0, Edges.FOUR), 0, "count", 2);
        Edges.refuses(Edges.plant(60, Edges.FOUR), 60, "count", 2);
        Edges.refuses(parallel(24), 24, "count", 4);
        Edges.refuses(parallel(24), 0, "count", 3);
        Edges.sentence("Promise 36", "5: heat of HOT streams together, 6: of COLD ones");
        Edges.Maker all = Edges.plant("h500-0*20,".repeat(5) + "c0-500*20,".repeat(4) + "c0-500*20");
        Edges.refuses(all, 50000, "count", 5);
        Edges.refuses(all, 50000, "count", 6);
    }

    private static void countRow() {
        Edges.sentence("Promise 36", "7: numbers of the ROW, 8: signs of THE TEXT");
        Edges.refuses(NONE, 0, "count", 7);
        Edges.refuses(Edges.then(NONE, HeatPinch::fuel), 2, "count", 7);
        Edges.refuses(Edges.then(NONE, x -> x.above(true, 0)), 1, "count", 7);
        Edges.refuses(Edges.then(JOINED, x -> x.border(0)), 4, "count", 7);
        Edges.refuses(NONE, 0, "count", 8);
        Edges.refuses(Edges.unread("7".repeat(120)), 120, "count", 8);
        Edges.refuses(Edges.then(Edges.unread("7".repeat(120)), x -> x.sign(0)), 120, "count", 8);
        Edges.refuses(Edges.then(Edges.unread("7".repeat(120)), x -> x.end(119)), 119, "count", 8);
        Edges.refuses(Edges.then(Edges.unread("7"), HeatPinch::streams), 0, "count", 8);
    }

    // ---- promise 37

    private static void row() {
        Edges.sentence("Promise 37", "Number i of the ROW. NoSuchElementException: none such.");
        Edges.fails(NONE, "row", 0);
        Edges.fails(NONE, "row", -1);
        int[] due = {90, 170, 480, 0};
        for (int i = 0; i < due.length; i++) {
            Edges.refuses(JOINED, due[i], "row", i);
        }
        Edges.fails(JOINED, "row", -1);
        Edges.fails(JOINED, "row", 4);
        Edges.refusesFar(JOINED, Edges.THREW, "row", 0, 0);
        // A ROW that is shorter than the one ahead of it.
        Edges.Maker shorter = Edges.then(JOINED, x -> x.above(true, 0));
        Edges.refuses(shorter, 0, "row", 0);
        Edges.fails(shorter, "row", 1);
        // One that is told with a refusal.
        Edges.Maker refused = Edges.then(JOINED, x -> x.leaves(1, 0));
        Edges.refuses(refused, 0, "row", 0);
        Edges.fails(refused, "row", 1);
        // The longest: as many noughts as ten streams can have.
        Edges.Maker ten = Edges.then(Edges.plant(0, "h90-0*1,c0-10*1,c10-20*1,c20-30*1,c30-40*1,c40-50*1,"
                + "c50-60*1,c60-70*1,c70-80*1,c80-90*1"), HeatPinch::pinch);
        Edges.refuses(ten, 10, "count", 7);
        Edges.refuses(ten, 1090, "row", 0);
        Edges.refuses(ten, 1000, "row", 9);
        Edges.fails(ten, "row", 10);
    }
}
