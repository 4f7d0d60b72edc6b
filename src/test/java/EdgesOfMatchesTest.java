import java.util.Arrays;
import java.util.function.Consumer;

/** The edges that the document names in its terms of matches and in the promises 21 to 32. */
public final class EdgesOfMatchesTest {
    private static final int GREATEST = Edges.GREATEST;
    private static final int LEAST = Edges.LEAST;
    private static final Edges.Maker NONE = Edges.unread("");
    private static final Edges.Maker FOUR = Edges.plant(Edges.FOUR);
    private static final Edges.Maker JOINED = Edges.joined();
    /** All below the pinch at 100, each width 60: 200 heat of each hot stream, 160 of each cold one. */
    private static final Edges.Maker SQUARE = Edges.plant(0, "h100-50*4,h100-50*4,c0-40*4,c0-40*4");

    /** As FOUR, with one more cold stream; above the pinch the hot stream 0 fits both 3 and 4. */
    private static final Edges.Maker FIVE = Edges.plant(Edges.FOUR + ",c80-140*8");

    public static void main(String[] args) {
        terms();
        arriveAbove();
        arriveBelow();
        arriveNear();
        range();
        joinsRefused();
        joinsGone();
        joinsFull();
        joinsRests();
        joinsWidths();
        most();
        mostIsTheGreatest();
        ticksFull();
        ticksEqual();
        match();
        area();
        total();
        leaves();
        leavesWidths();
        loads();
        loadsWidths();
        clears();
        left();
        Edges.ends(21, 32);
    }

    /** So many matches of a load of 1 of the two. */
    private static Consumer<HeatPinch> ones(int side, int hot, int cold, int many) {
        return x -> {
            for (int k = 0; k < many; k++) {
                x.joins(side, hot, cold, 1);
            }
        };
    }

    private static Edges.Maker with(Edges.Maker first, int side, int[]... matches) {
        return Edges.then(first, x -> {
            for (int[] m : matches) {
                x.joins(side, m[0], m[1], m[2]);
            }
        });
    }

    private static void noSide(Edges.Maker x, long want, String name, int... args) {
        for (int side : new int[] {-1, 2}) {
            int[] given = args.clone();
            given[0] = side;
            Edges.refuses(x, want, name, given);
        }
        Edges.refusesFar(x, want, name, 0, args);
    }

    // ---- terms

    private static void terms() {
        Edges.sentence("Terms", "a HOT stream, a COLD one, a LOAD, 1 or more");
        Edges.does(SQUARE, "joins", 1, 0, 2, 1).is(0).matches("1:0+2*1");
        Edges.refuses(SQUARE, -1, "joins", 1, 0, 2, 0);
        Edges.does(with(SQUARE, 1, new int[] {0, 2, 2}), "loads", 1, 0, 1).is(2).matches("1:0+2*1");
        Edges.refuses(with(SQUARE, 1, new int[] {0, 2, 2}), -1, "loads", 1, 0, 0);
        Edges.sentence("Terms", "each LOAD by CAPACITY degrees long (fractions of degrees as they are)");
        // By 1 on 6 and 4 a degree; then by 1 on 3 and 4, behind the first one on the cold stream alone.
        Edges.Maker fine = with(FOUR, 1, new int[] {0, 2, 1}, new int[] {1, 2, 1});
        Edges.asks(fine, "match", 1, 0, 2).is(1).row(10, 1, 121, 12);
        Edges.asks(fine, "match", 1, 1, 2).is(1).row(41, 4, 61, 6);
        Edges.sentence("Terms", "It KEEPS, if both are GAP at least.");
        Edges.does(Edges.plant(60, "h160-100*4,c40-100*4"), "joins", 1, 0, 1, 240).is(0).row(0, 0);
        Edges.does(Edges.plant(0, "h100-40*4,c40-100*4"), "joins", 1, 0, 1, 240).is(0).row(0, 0);
        Edges.refuses(Edges.plant(60, "h160-100*4,h160-100*1,c40-100*5"), -5, "joins", 1, 0, 2, 1);
        Edges.refuses(Edges.plant(0, "h100-40*4,h100-40*1,c40-100*5"), -5, "joins", 1, 0, 2, 1);
        Edges.sentence("Terms", "REST of a stream on a SIDE: HEAT less its LOADS there.");
        Edges.asks(with(FOUR, 0, new int[] {1, 3, 179}), "range", 0, 1).is(1).row(90, 150, 180, 1);
        Edges.asks(with(FOUR, 0, new int[] {1, 3, 180}), "range", 0, 1).is(1).row(90, 150, 180, 0);
        Edges.asks(with(FOUR, 0, new int[] {1, 3, 180}), "range", 1, 1).is(1).row(90, 30, 180, 180);
        Edges.asks(with(FOUR, 0, new int[] {1, 3, 100}, new int[] {1, 2, 50}), "range", 0, 1).is(1).row(90, 150, 180, 30);
    }

    // ---- promise 21

    private static void arriveAbove() {
        Edges.sentence("Promise 21", "(ABOVE: not more HOT ones than COLD ones");
        Edges.asks(Edges.plant(0, "h200-100*1,c100-200*2,c100-200*2"), "arrive", 0).is(1).row(2, 1, 1);
        Edges.asks(Edges.plant(0, "h200-100*1,c100-200*2"), "arrive", 0).is(1).row(1, 1, 1);
        Edges.asks(Edges.plant(0, "h200-100*1,h200-100*1,c100-200*3"), "arrive", 0).is(2).row(1, 0, 0);
        Edges.sentence("Promise 21", "can have one of the others for itself that has as great a CAPACITY at least");
        Edges.asks(Edges.plant(0, "h200-100*5,c100-200*6"), "arrive", 0).is(1).row(1, 1, 1);
        Edges.asks(Edges.plant(0, "h200-100*5,c100-200*5,c100-200*1"), "arrive", 0).is(1).row(2, 1, 1);
        Edges.asks(Edges.plant(0, "h200-100*5,c100-200*4,c100-200*2"), "arrive", 0).is(1).row(2, 1, 0);
        Edges.asks(Edges.plant(0, "h200-100*5,h200-100*5,c100-200*5,c100-200*6"), "arrive", 0).is(2).row(2, 1, 1);
        Edges.asks(Edges.plant(0, "h200-100*5,h200-100*5,c100-200*4,c100-200*7"), "arrive", 0).is(2).row(2, 1, 0);
        Edges.asks(Edges.plant(0, "h200-100*3,h200-100*5,c100-200*5,c100-200*4"), "arrive", 0).is(2).row(2, 1, 1);
        Edges.asks(Edges.plant(0, "h200-100*3,h200-100*5,c100-200*7,c100-200*2"), "arrive", 0).is(2).row(2, 1, 0);
        Edges.asks(Edges.plant(0, "h200-100*20,c100-200*20,c100-200*1"), "arrive", 0).is(1).row(2, 1, 1);
        Edges.asks(Edges.plant(0, "h200-100*20,c100-200*19,c100-200*2"), "arrive", 0).is(1).row(2, 1, 0);
        Edges.asks(Edges.plant(0, "h200-100*1,c100-200*1,c100-200*1"), "arrive", 0).is(1).row(2, 1, 1);
    }

    private static void arriveBelow() {
        Edges.sentence("Promise 21", "BELOW: not more COLD ones than HOT ones), else 0");
        Edges.asks(Edges.plant(0, "h100-0*9,h100-0*9,c0-100*4"), "arrive", 1).is(2).row(1, 1, 1);
        Edges.asks(Edges.plant(0, "h100-0*9,c0-100*4"), "arrive", 1).is(1).row(1, 1, 1);
        Edges.asks(Edges.plant(0, "h100-0*9,c0-100*4,c0-100*4"), "arrive", 1).is(1).row(2, 0, 0);
        Edges.sentence("Promise 21", "1 if each of those (ABOVE HOT ones, BELOW COLD ones)");
        Edges.asks(Edges.plant(0, "h100-0*5,c0-100*5"), "arrive", 1).is(1).row(1, 1, 1);
        Edges.asks(Edges.plant(0, "h100-0*5,h100-0*1,c0-100*5"), "arrive", 1).is(2).row(1, 1, 1);
        Edges.asks(Edges.plant(0, "h100-0*4,h100-0*2,c0-100*5"), "arrive", 1).is(2).row(1, 1, 0);
        Edges.asks(Edges.plant(0, "h100-0*20,c0-100*20"), "arrive", 1).is(1).row(1, 1, 1);
        Edges.asks(Edges.plant(0, "h100-0*19,h100-0*1,c0-100*20"), "arrive", 1).is(2).row(1, 1, 0);
        Edges.asks(Edges.plant(0, "h100-0*4,h100-0*6,c0-100*6,c0-100*4"), "arrive", 1).is(2).row(2, 1, 1);
        Edges.asks(Edges.plant(0, "h100-0*3,h100-0*7,c0-100*6,c0-100*4"), "arrive", 1).is(2).row(2, 1, 0);
        Edges.sentence("Promise 21", "NONE: no such SIDE");
        Edges.asks(JOINED, "arrive", 0).is(2).row(2, 1, 1);
        Edges.asks(JOINED, "arrive", 1).is(2).row(1, 1, 1);
        noSide(JOINED, -1, "arrive", 0);
        noSide(NONE, -1, "arrive", 0);
    }

    private static void arriveNear() {
        Edges.sentence("Promise 21", "STREAMS of which NEAR is the PINCH (and that have HEAT there)");
        // One that comes to the pinch but for a degree: cold and hot, above and below.
        Edges.asks(Edges.plant(0, "h200-100*5,c100-200*7,c100-200*9"), "arrive", 0).is(1).row(2, 1, 1);
        Edges.asks(Edges.plant(0, "h200-100*5,c100-200*7,c101-200*9"), "arrive", 0).is(1).row(1, 1, 1);
        Edges.asks(Edges.plant(0, "h200-101*5,c100-200*7"), "arrive", 0).is(0).row(1, 1, 1);
        Edges.asks(Edges.plant(10, "h210-110*5,h210-110*1,c100-200*7"), "arrive", 0).is(2).row(1, 0, 0);
        Edges.asks(Edges.plant(10, "h210-111*5,h210-110*1,c100-200*7"), "arrive", 0).is(1).row(1, 1, 1);
        Edges.asks(Edges.plant(0, "h100-0*9,c0-100*4,c0-99*4"), "arrive", 1).is(1).row(1, 1, 1);
        Edges.asks(Edges.plant(10, "h110-10*9,c0-100*4,h110-10*1"), "arrive", 1).is(2).row(1, 1, 1);
        Edges.asks(Edges.plant(10, "h110-10*9,c0-100*4,h109-10*1"), "arrive", 1).is(1).row(1, 1, 1);
        // They begin at the pinch, but have nothing on the other side of it.
        Edges.asks(Edges.plant(0, "h100-0*9,c0-100*4"), "arrive", 0).is(0).row(0, 1, 1);
        Edges.asks(Edges.plant(0, "h200-100*1,c100-200*2"), "arrive", 1).is(0).row(0, 1, 1);
        Edges.asks(NONE, "arrive", 0).is(0).row(0, 1, 1);
    }

    // ---- promise 22

    private static void range() {
        Edges.sentence("Promise 22", "1 if it has HEAT there, else 0; the ROW: NEAR, FAR (both 0 if it has not), HEAT, REST");
        Edges.asks(JOINED, "range", 0, 0).is(1).row(90, 170, 480, 0);
        Edges.asks(JOINED, "range", 0, 2).is(1).row(80, 135, 220, 40);
        Edges.asks(JOINED, "range", 1, 1).is(1).row(90, 30, 180, 120);
        Edges.asks(JOINED, "range", 1, 3).is(0).row(0, 0, 0, 0);
        Edges.asks(Edges.plant(0, "c0-1*1"), "range", 0, 0).is(1).row(0, 1, 1, 1);
        Edges.asks(Edges.plant(0, "c0-1*1"), "range", 1, 0).is(0).row(0, 0, 0, 0);
        Edges.asks(Edges.plant(0, "h1-0*1"), "range", 1, 0).is(1).row(1, 0, 1, 1);
        Edges.asks(Edges.plant(0, "h1-0*1"), "range", 0, 0).is(0).row(0, 0, 0, 0);
        Edges.sentence("Promise 22", "NONE: no such SIDE, STREAM");
        noSide(JOINED, -1, "range", 0, 0);
        for (int side = 0; side < 2; side++) {
            Edges.refuses(JOINED, -1, "range", side, -1);
            Edges.refuses(JOINED, -1, "range", side, 4);
            Edges.refusesFar(JOINED, -1, "range", 1, side, 0);
            Edges.refuses(NONE, -1, "range", side, 0);
        }
        Edges.Maker ten = Edges.plant("c0-1*1,".repeat(9) + "c0-1*2");
        Edges.asks(ten, "range", 0, 9).is(1).row(0, 1, 2, 2);
        Edges.refuses(ten, -1, "range", 0, 10);
    }

    // ---- promise 23

    private static void joinsRefused() {
        Edges.sentence("Promise 23", "NONE: no such SIDE, no HOT, no COLD stream with HEAT there, LOAD below 1");
        cannotMeet("joins", 1);
        Edges.refuses(FOUR, -1, "joins", 0, 1, 3, 0);
        Edges.refuses(FOUR, -1, "joins", 0, 1, 3, -1);
        Edges.refuses(FOUR, -1, "joins", 0, 1, 3, LEAST);
        Edges.does(FOUR, "joins", 0, 1, 3, 1).is(0).row(179, 479).matches("0:1+3*1");
        Edges.does(FOUR, "joins", 1, 0, 2, 1).is(0).row(179, 239).matches("1:0+2*1");
        Edges.Maker full = Edges.then(FOUR, ones(0, 1, 3, 24));
        Edges.refuses(full, -1, "joins", 0, 1, 3, 0);
        Edges.refuses(full, -1, "joins", 0, 3, 3, 1);
    }

    /** Of FOUR: all that is no side, no hot stream, no cold one, and one without heat on a side. */
    private static void cannotMeet(String name, int... load) {
        int[][] wrong = {{-1, 1, 3}, {2, 1, 3}, {0, -1, 3}, {0, 4, 3}, {0, 2, 3}, {0, 3, 2}, {0, 1, -1}, {0, 1, 4},
            {0, 1, 0}, {0, 1, 1}, {1, 0, 3}, {1, 1, 3}, {1, 2, 0}, {LEAST, 1, 3}, {GREATEST, 1, 3}, {0, LEAST, 3},
            {0, GREATEST, 3}, {0, 1, LEAST}, {0, 1, GREATEST}};
        for (int[] w : wrong) {
            int[] args = Arrays.copyOf(w, 3 + load.length);
            System.arraycopy(load, 0, args, 3, load.length);
            Edges.refuses(FOUR, -1, name, args);
        }
        // A hot one that ends at the pinch, or a degree above it: only so it has heat there.
        int[] args = Arrays.copyOf(new int[] {0, 3, 1}, 3 + load.length);
        System.arraycopy(load, 0, args, 3, load.length);
        String most = "c0-100*2,c100-150*2,h110-60*9,h";
        Edges.refuses(Edges.plant(10, most + "110-60*1"), -1, name, args);
        Edges.does(Edges.plant(10, most + "111-60*1"), name, args).is(name.equals("joins") ? 0 : 1);
    }

    /** A stream that was there, and one behind the tenth. */
    private static void joinsGone() {
        Edges.sentence("Promise 23", "no HOT, no COLD stream with HEAT there");
        Edges.Maker gone = Edges.then(FOUR, x -> x.drops(3));
        Edges.refuses(gone, -1, "joins", 1, 0, 3, 1);
        Edges.refuses(gone, -1, "most", 1, 0, 3);
        Edges.refuses(Edges.then(FOUR, x -> x.drops(0)), -1, "joins", 0, 0, 3, 1);
        Edges.Maker hotGone = Edges.then(Edges.plant("c20-135*4,h170-60*3,h150-30*6"), x -> x.drops(2));
        Edges.refuses(hotGone, -1, "joins", 0, 2, 0, 1);
        Edges.refuses(hotGone, -1, "joins", 1, 2, 0, 1);
        Edges.Maker ten = Edges.plant(0, "h200-100*1,".repeat(5) + "c100-200*2,".repeat(4) + "c100-200*2");
        Edges.does(ten, "joins", 0, 4, 9, 1).is(0).row(99, 199);
        Edges.refuses(ten, -1, "joins", 0, 4, 10, 1);
        Edges.refuses(ten, -1, "joins", 0, 10, 9, 1);
        Edges.refuses(ten, -1, "most", 0, 4, 10);
        Edges.refuses(ten, -1, "most", 0, 10, 9);
    }

    private static void joinsFull() {
        Edges.sentence("Promise 23", "-2: there are 24 on that SIDE");
        Edges.does(Edges.then(FOUR, ones(0, 1, 3, 22)), "joins", 0, 1, 3, 1).is(22).row(157, 457);
        Edges.does(Edges.then(FOUR, ones(0, 1, 3, 23)), "joins", 0, 1, 3, 1).is(23).row(156, 456)
                .matches("0:1+3*1 ".repeat(24).trim());
        Edges.Maker full = Edges.then(FOUR, ones(0, 1, 3, 24));
        Edges.refuses(full, -2, "joins", 0, 1, 3, 1);
        // Without the 24: -3, -4, -5.
        Edges.refuses(full, -2, "joins", 0, 1, 3, 157);
        Edges.refuses(full, -2, "joins", 0, 0, 3, 1);
        Edges.refuses(full, -2, "joins", 0, 0, 2, 1);
        Edges.does(full, "joins", 1, 0, 2, 1).is(0).row(179, 239);
        Edges.does(Edges.then(full, x -> x.leaves(0, 0)), "joins", 0, 1, 3, 1).is(23);
        Edges.does(Edges.then(FOUR, ones(1, 0, 2, 23)), "joins", 1, 0, 2, 1).is(23);
        Edges.refuses(Edges.then(FOUR, ones(1, 0, 2, 24)), -2, "joins", 1, 0, 2, 1);
    }

    private static void joinsRests() {
        Edges.sentence("Promise 23", "-3: the LOAD is more than a REST");
        Edges.does(FOUR, "joins", 0, 1, 3, 179).is(0).row(1, 301);
        Edges.does(FOUR, "joins", 0, 1, 3, 180).is(0).row(0, 300);
        Edges.refuses(FOUR, -3, "joins", 0, 1, 3, 181);
        Edges.does(SQUARE, "joins", 1, 0, 2, 159).is(0).row(41, 1);
        Edges.does(SQUARE, "joins", 1, 0, 2, 160).is(0).row(40, 0);
        Edges.refuses(SQUARE, -3, "joins", 1, 0, 2, 161);
        Edges.refuses(SQUARE, -3, "joins", 1, 0, 2, GREATEST);
        Edges.refuses(with(SQUARE, 1, new int[] {0, 2, 1}), -3, "joins", 1, 0, 2, GREATEST);
        // Of what is left by other matches, of the hot stream and of the cold one.
        Edges.Maker hot = with(SQUARE, 1, new int[] {0, 2, 150});
        Edges.does(hot, "joins", 1, 0, 3, 50).is(1).row(0, 110);
        Edges.refuses(hot, -3, "joins", 1, 0, 3, 51);
        Edges.does(hot, "joins", 1, 1, 2, 10).is(1).row(190, 0);
        Edges.refuses(hot, -3, "joins", 1, 1, 2, 11);
        Edges.refuses(with(SQUARE, 1, new int[] {0, 2, 160}), -3, "joins", 1, 1, 2, 1);
        // Ahead of -4 and of -5.
        Edges.Maker narrow = with(FOUR, 0, new int[] {1, 3, 80});
        Edges.refuses(narrow, -4, "joins", 0, 0, 3, 400);
        Edges.refuses(narrow, -3, "joins", 0, 0, 3, 401);
        Edges.refuses(FOUR, -5, "joins", 0, 0, 2, 220);
        Edges.refuses(FOUR, -3, "joins", 0, 0, 2, 221);
    }

    private static void joinsWidths() {
        Edges.sentence("Promise 23", "-4: WIDTH at its begin is below GAP");
        // At the pinch it is GAP; by 1 / 8 degree less it is below, though it would be wide at its end.
        Edges.does(FOUR, "joins", 0, 0, 3, 100).is(0);
        Edges.refuses(with(FOUR, 0, new int[] {1, 3, 1}), -4, "joins", 0, 0, 3, 1);
        Edges.refuses(with(FOUR, 0, new int[] {1, 3, 1}), -4, "joins", 0, 0, 3, 100);
        // Away from the pinch: a degree higher on both, then 1 / 8 more on the cold stream.
        Edges.does(with(FIVE, 0, new int[] {0, 4, 6}, new int[] {1, 3, 8}), "joins", 0, 0, 3, 30).is(2).row(444, 442);
        Edges.refuses(with(FIVE, 0, new int[] {0, 4, 6}, new int[] {1, 3, 9}), -4, "joins", 0, 0, 3, 30);
        Edges.sentence("Promise 23", "-5: at its end");
        Edges.refuses(FOUR, -5, "joins", 0, 0, 2, 1);
        Edges.refuses(FOUR, -5, "joins", 1, 1, 2, 1);
        // 4 of the cold one: a degree more at the begin, of which each load takes 1 / 12.
        Edges.Maker wider = with(FOUR, 1, new int[] {0, 2, 4});
        Edges.does(wider, "joins", 1, 1, 2, 11).is(1).row(169, 225);
        Edges.does(wider, "joins", 1, 1, 2, 12).is(1).row(168, 224);
        Edges.refuses(wider, -5, "joins", 1, 1, 2, 13);
        // The next one begins at GAP just so.
        Edges.refuses(with(wider, 1, new int[] {1, 2, 12}), -5, "joins", 1, 1, 2, 1);
        // As wide as GAP all along.
        Edges.Maker equal = Edges.plant(0, "h200-100*5,c100-200*5,c100-200*1");
        Edges.does(equal, "joins", 0, 0, 1, 500).is(0).row(0, 0);
        Edges.sentence("Promise 23", "A MATCH comes: its number; the ROW: REST of the HOT stream, of the COLD one then");
        Edges.does(wider, "joins", 1, 0, 2, 176).is(1).row(0, 60).matches("1:0+2*4 1:0+2*176");
    }

    // ---- promise 24

    private static void most() {
        Edges.sentence("Promise 24", "NONE: as joins().");
        cannotMeet("most");
        Edges.sentence("Promise 24", "The greatest LOAD by which both could be joined now (0: none).");
        Edges.refuses(FOUR, 180, "most", 0, 1, 3);
        Edges.refuses(FOUR, 0, "most", 0, 0, 2);
        Edges.refuses(FOUR, 0, "most", 1, 1, 2);
        Edges.refuses(JOINED, 0, "most", 0, 0, 3);
        Edges.refuses(with(FOUR, 0, new int[] {1, 3, 1}), 0, "most", 0, 0, 3);
        Edges.refuses(with(FOUR, 0, new int[] {1, 3, 179}), 1, "most", 0, 1, 3);
        Edges.refuses(with(FOUR, 0, new int[] {1, 3, 180}), 0, "most", 0, 1, 3);
        Edges.sentence("Promise 24", "(How many MATCHES there are does not matter.)");
        Edges.refuses(Edges.then(FOUR, ones(0, 1, 3, 23)), 157, "most", 0, 1, 3);
        Edges.refuses(Edges.then(FOUR, ones(0, 1, 3, 24)), 156, "most", 0, 1, 3);
        Edges.refuses(Edges.then(FOUR, ones(0, 1, 3, 24)), 180, "most", 1, 0, 2);
    }

    private static void mostIs(Edges.Maker x, int side, int hot, int cold, int most, int refusal) {
        Edges.refuses(x, most, "most", side, hot, cold);
        if (most > 0) {
            int number = x.make().count(3 + side);
            Edges.does(x, "joins", side, hot, cold, most).is(number);
        }
        Edges.refuses(x, refusal, "joins", side, hot, cold, most + 1);
    }

    private static void mostIsTheGreatest() {
        mostIs(FOUR, 0, 0, 3, 480, -3);
        mostIs(FOUR, 0, 1, 2, 180, -3);
        mostIs(FOUR, 0, 0, 2, 0, -5);
        mostIs(FOUR, 1, 0, 2, 180, -3);
        mostIs(FOUR, 1, 1, 2, 0, -5);
        for (int load = 1; load <= 10; load++) {
            // Each 4 of the cold one give a degree, each of which lets 12 be joined.
            mostIs(with(FOUR, 1, new int[] {0, 2, load}), 1, 1, 2, 3 * load, -5);
        }
        // A degree at the begin, 2 / 15 of it for each load: 7 and a half.
        Edges.Maker half = Edges.plant(0, "h101-0*3,c0-100*5,h101-0*5");
        mostIs(half, 1, 0, 1, 7, -5);
        mostIs(Edges.then(half, x -> x.sets(1, 1, 99)), 1, 0, 1, 15, -5);
        // Above: a degree at the begin, 1 / 2 less 1 / 5 of it for each load: 3 and a third.
        Edges.Maker third = Edges.plant(0, "h200-101*5,c100-200*2,c100-200*9");
        mostIs(third, 0, 0, 1, 3, -5);
        mostIs(Edges.plant(0, "h200-100*5,c100-200*2,c100-200*9"), 0, 0, 1, 0, -5);
        // As wide as GAP at its begin, and no narrower on the way.
        mostIs(Edges.plant(0, "h200-100*5,c100-200*5,c100-200*1"), 0, 0, 1, 500, -3);
        mostIs(Edges.plant(0, "h100-50*4,c50-100*4"), 1, 0, 1, 200, -3);
        mostIs(with(SQUARE, 1, new int[] {0, 2, 150}), 1, 0, 2, 10, -3);
        mostIs(with(SQUARE, 1, new int[] {0, 2, 150}), 1, 0, 3, 50, -3);
        mostIs(with(FOUR, 0, new int[] {1, 3, 1}), 0, 0, 3, 0, -4);
        // Too narrow at its begin by 1 / 3 of a degree, by 1 / 20.
        mostIs(with(Edges.plant(0, "h200-100*1,h200-100*1,c100-200*3"), 0, new int[] {1, 2, 1}), 0, 0, 2, 0, -4);
        mostIs(with(Edges.plant(0, "h200-100*1,h200-100*1,c100-200*20"), 0, new int[] {1, 2, 1}), 0, 0, 2, 0, -4);
    }

    // ---- promise 25

    private static void ticksFull() {
        Edges.sentence("Promise 25", "as long as there are not 24");
        Edges.does(Edges.then(SQUARE, ones(1, 0, 2, 21)), "ticks", 1).is(2).row(80, 0)
                .matches("1:0+2*1 ".repeat(21) + "1:0+3*160 1:1+2*139");
        Edges.does(Edges.then(SQUARE, ones(1, 0, 2, 22)), "ticks", 1).is(2).row(80, 0)
                .matches("1:0+2*1 ".repeat(22) + "1:0+3*160 1:1+2*138");
        Edges.does(Edges.then(SQUARE, ones(1, 0, 2, 23)), "ticks", 1).is(1).row(217, 137)
                .matches("1:0+2*1 ".repeat(23) + "1:0+3*160");
        Edges.asks(Edges.then(SQUARE, ones(1, 0, 2, 24)), "ticks", 1).is(0).row(376, 296);
        Edges.does(Edges.then(FOUR, ones(1, 0, 2, 24)), "ticks", 0).is(2).row(0, 40);
        Edges.sentence("Promise 25", "NONE: no such SIDE");
        noSide(JOINED, -1, "ticks", 0);
        noSide(NONE, -1, "ticks", 0);
        Edges.sentence("Promise 25", "how many MATCHES come; the ROW: RESTS of HOT streams, of COLD ones on that SIDE together then");
        Edges.does(FOUR, "ticks", 0).is(2).row(0, 40).matches("0:0+3*480 0:1+2*180");
        Edges.does(FOUR, "ticks", 1).is(2).row(120, 0).matches("1:0+2*180 1:1+2*60");
        Edges.asks(JOINED, "ticks", 0).is(0).row(0, 40);
        Edges.asks(JOINED, "ticks", 1).is(0).row(120, 0);
        Edges.asks(SQUARE, "ticks", 0).is(0).row(0, 0);
        // All have a REST, but each two would come too near to one another.
        Edges.asks(Edges.plant(0, "h200-100*5,c100-200*3,c100-200*3"), "ticks", 0).is(0).row(500, 600);
        Edges.asks(Edges.plant(0, "h100-0*3,h100-0*3,c0-100*5"), "ticks", 1).is(0).row(600, 500);
    }

    private static void ticksEqual() {
        Edges.sentence("Promise 25", "(above 0; of equal ones the least HOT, then the least COLD one)");
        Edges.does(SQUARE, "ticks", 1).is(2).row(80, 0).matches("1:0+2*160 1:1+3*160");
        Edges.does(Edges.plant(0, "c0-40*4,c0-40*4,h100-50*4,h100-50*4"), "ticks", 1).is(2).row(80, 0)
                .matches("1:2+0*160 1:3+1*160");
        // 0 and 2 can't be joined; 0 and 3 come ahead of 1 and 2.
        Edges.does(Edges.plant(0, "h50-10*4,h100-50*4,c60-100*4,c0-40*4"), "ticks", 1).is(2).row(40, 0)
                .matches("1:0+3*160 1:1+2*160");
        // One more is greater, whatever the numbers are.
        Edges.does(Edges.then(SQUARE, ones(1, 0, 2, 1)), "ticks", 1).is(2).matches("1:0+2*1 1:0+3*160 1:1+2*159");
        Edges.does(Edges.plant(0, "h100-99*7,h100-99*8,c0-40*1"), "ticks", 0).is(2).row(0, 25)
                .matches("0:1+2*8 0:0+2*7");
        Edges.does(Edges.plant(0, "h100-99*20,c0-7*1,c0-8*1"), "ticks", 1).is(2).row(5, 0)
                .matches("1:0+2*8 1:0+1*7");
        // A load of 1 is above 0.
        Edges.does(Edges.plant(0, "h100-99*1,c0-1*1"), "ticks", 1).is(1).row(0, 0).matches("1:0+1*1");
    }

    // ---- promise 26

    private static void match() {
        Edges.sentence("Promise 26", "what 0: HOT stream, 1: COLD one, 2: LOAD; the ROW: WIDTH at its begin, at its end (two fractions)");
        Edges.asks(JOINED, "match", 0, 1, 0).is(1).row(10, 1, 25, 1);
        Edges.asks(JOINED, "match", 0, 1, 1).is(2).row(10, 1, 25, 1);
        Edges.asks(JOINED, "match", 0, 1, 2).is(180).row(10, 1, 25, 1);
        Edges.asks(JOINED, "match", 1, 1, 2).is(60).row(55, 1, 50, 1);
        Edges.Maker fine = with(FOUR, 1, new int[] {0, 2, 1}, new int[] {1, 2, 3});
        Edges.asks(fine, "match", 1, 0, 0).is(0).row(10, 1, 121, 12);
        Edges.asks(fine, "match", 1, 1, 0).is(1).row(41, 4, 10, 1);
        Edges.asks(with(Edges.plant(0, "h100-50*4,c50-100*4"), 1, new int[] {0, 1, 3}), "match", 1, 0, 2).is(3).row(0, 1, 0, 1);
        Edges.asks(Edges.then(FOUR, ones(0, 1, 3, 24)), "match", 0, 23, 2).is(1).row(355, 24, 15, 1);
        Edges.sentence("Promise 26", "NoSuchElementException: none such, another what");
        Edges.fails(Edges.then(FOUR, ones(0, 1, 3, 24)), "match", 0, 24, 2);
        Edges.fails(Edges.then(FOUR, ones(0, 1, 3, 24)), "match", 1, 0, 2);
        Edges.fails(JOINED, "match", 0, 0, -1);
        Edges.fails(JOINED, "match", 0, 0, 3);
        Edges.refusesFar(JOINED, Edges.THREW, "match", 2, 0, 0, 0);
        noMatch(Edges.THREW, "match", 0, 0, 0);
        Edges.fails(FOUR, "match", 0, 0, 0);
        Edges.fails(FOUR, "match", 1, 0, 0);
    }

    /** JOINED has two on each side. */
    private static void noMatch(long want, String name, int... args) {
        noSide(JOINED, want, name, args);
        for (int side = 0; side < 2; side++) {
            int[] given = args.clone();
            given[0] = side;
            given[1] = -1;
            Edges.refuses(JOINED, want, name, given);
            given[1] = 2;
            Edges.refuses(JOINED, want, name, given);
            Edges.refusesFar(JOINED, want, name, 1, given);
        }
    }

    // ---- promise 27

    private static void area() {
        Edges.sentence("Promise 27", "twice its LOAD by both WIDTHS together, rounded up");
        int[][] due = {{1, 1}, {59, 1}, {60, 1}, {61, 2}, {119, 2}, {120, 2}, {121, 3}};
        for (int[] d : due) {
            Edges.refuses(with(SQUARE, 1, new int[] {0, 2, d[0]}), d[1], "area", 1, 0);
        }
        Edges.refuses(JOINED, 24, "area", 0, 0);
        Edges.refuses(JOINED, 11, "area", 0, 1);
        Edges.refuses(JOINED, 2, "area", 1, 1);
        Edges.sentence("Promise 27", "-2: both are 0");
        Edges.Maker level = Edges.plant(0, "h100-50*4,c50-100*4");
        Edges.refuses(with(level, 1, new int[] {0, 1, 1}), -2, "area", 1, 0);
        Edges.refuses(with(level, 1, new int[] {0, 1, 200}), -2, "area", 1, 0);
        // 0 at its begin alone; at its end 1 / 19 less 1 / 20.
        Edges.Maker slim = Edges.plant(0, "h500-0*20,c0-500*19,c0-1*1");
        Edges.refuses(with(slim, 1, new int[] {0, 1, 1}), 760, "area", 1, 0);
        // 0 at its end alone: 5, by 20 times 1 / 4.
        Edges.Maker end = with(Edges.plant(0, "h100-0*4,h100-0*2,c0-100*4"), 1, new int[] {0, 2, 20}, new int[] {1, 2, 20});
        Edges.asks(end, "match", 1, 1, 2).is(20).row(5, 1, 0, 1);
        Edges.refuses(end, 8, "area", 1, 1);
        Edges.refuses(end, -2, "area", 1, 0);
        Edges.sentence("Promise 27", "NONE: none such");
        noMatch(-1, "area", 0, 0);
        Edges.refuses(FOUR, -1, "area", 0, 0);
    }

    // ---- promise 28

    private static void total() {
        Edges.sentence("Promise 28", "how many have none (-2), the MATCH that needs most (100 times its SIDE, and its number; of equal ones the first; NONE without)");
        Edges.asks(NONE, "total").is(0).row(0, -1);
        Edges.asks(FOUR, "total").is(0).row(0, -1);
        Edges.asks(JOINED, "total").is(48).row(0, 0);
        Edges.asks(Edges.then(JOINED, x -> x.clears(0)), "total").is(13).row(0, 100);
        Edges.asks(Edges.then(JOINED, x -> x.clears(1)), "total").is(35).row(0, 0);
        // Each needs 1: of one side, of both sides.
        Edges.Maker above = Edges.then(FOUR, ones(0, 1, 3, 2));
        Edges.asks(above, "total").is(2).row(0, 0);
        Edges.asks(Edges.then(above, ones(1, 0, 2, 2)), "total").is(4).row(0, 0);
        Edges.asks(Edges.then(FOUR, ones(1, 0, 2, 2)), "total").is(2).row(0, 100);
        // The last one needs 2; widths of 10 at its begin.
        Edges.asks(with(FOUR, 1, new int[] {0, 2, 1}, new int[] {0, 2, 30}), "total").is(4).row(0, 101);
        Edges.asks(with(Edges.then(above, ones(1, 0, 2, 1)), 1, new int[] {0, 2, 30}), "total").is(6).row(0, 101);
        Edges.asks(with(above, 0, new int[] {1, 3, 30}), "total").is(5).row(0, 2);
        Edges.asks(Edges.then(Edges.then(FOUR, ones(0, 1, 3, 24)), ones(1, 0, 2, 24)), "total").is(48).row(0, 0);
        Edges.Maker last = Edges.then(Edges.then(FOUR, ones(1, 0, 2, 23)), x -> x.joins(1, 0, 2, 60));
        Edges.asks(last, "total").is(28).row(0, 123);
        Edges.Maker level = Edges.plant(0, "h100-50*4,c50-100*4");
        Edges.asks(Edges.then(level, ones(1, 0, 1, 1)), "total").is(0).row(1, -1);
        Edges.asks(Edges.then(level, ones(1, 0, 1, 24)), "total").is(0).row(24, -1);
        Edges.Maker end = with(Edges.plant(0, "h100-0*4,h100-0*2,c0-100*4"), 1, new int[] {0, 2, 20}, new int[] {1, 2, 20});
        Edges.asks(end, "total").is(8).row(1, 101);
    }

    // ---- promise 29

    private static void leaves() {
        Edges.sentence("Promise 29", "A MATCH goes (those behind it get a number less, and lie nearer): how many are left");
        Edges.Maker three = with(SQUARE, 1, new int[] {0, 2, 10}, new int[] {0, 3, 20}, new int[] {0, 2, 30});
        Edges.does(three, "leaves", 1, 0).is(2).rowStays().matches("1:0+3*20 1:0+2*30")
                .becomes(with(SQUARE, 1, new int[] {0, 3, 20}, new int[] {0, 2, 30}));
        Edges.does(three, "leaves", 1, 1).is(2).rowStays().becomes(with(SQUARE, 1, new int[] {0, 2, 10}, new int[] {0, 2, 30}));
        Edges.does(three, "leaves", 1, 2).is(2).rowStays().becomes(with(SQUARE, 1, new int[] {0, 2, 10}, new int[] {0, 3, 20}));
        Edges.does(with(SQUARE, 1, new int[] {0, 2, 10}), "leaves", 1, 0).is(0).rowStays().becomes(SQUARE);
        Edges.does(JOINED, "leaves", 0, 1).is(1).rowStays().matches("0:0+3*480 1:0+2*180 1:1+2*60");
        Edges.does(Edges.then(FOUR, ones(0, 1, 3, 24)), "leaves", 0, 23).is(23).rowStays()
                .becomes(Edges.then(FOUR, ones(0, 1, 3, 23)));
        Edges.sentence("Promise 29", "NONE: none such");
        noMatch(-1, "leaves", 0, 0);
        Edges.refuses(FOUR, -1, "leaves", 0, 0);
        Edges.refuses(Edges.then(FOUR, ones(0, 1, 3, 24)), -1, "leaves", 0, 24);
    }

    private static void leavesWidths() {
        Edges.sentence("Promise 29", "-4: by that some other one would not KEEP (the ROW: the first such, by the number that it would have)");
        Edges.does(JOINED, "leaves", 1, 0).is(-4).row(0).restStays();
        // With 4 left ahead of it the last one can have 12.
        int[] four = {0, 2, 4};
        Edges.does(with(FOUR, 1, four, four, new int[] {1, 2, 11}), "leaves", 1, 0).is(2).rowStays();
        Edges.does(with(FOUR, 1, four, four, new int[] {1, 2, 12}), "leaves", 1, 0).is(2).rowStays()
                .becomes(with(FOUR, 1, four, new int[] {1, 2, 12}));
        Edges.does(with(FOUR, 1, four, four, new int[] {1, 2, 13}), "leaves", 1, 0).is(-4).row(1).restStays();
        Edges.does(with(FOUR, 1, four, four, new int[] {1, 2, 13}), "leaves", 1, 1).is(-4).row(1).restStays();
        Edges.does(with(FOUR, 1, four, four, new int[] {1, 2, 13}), "leaves", 1, 2).is(2).rowStays();
        // The last one begins at GAP just so, and ends below; two that would not keep: the first.
        Edges.does(with(FOUR, 1, four, four, new int[] {1, 2, 12}, new int[] {1, 2, 1}), "leaves", 1, 0).is(-4).row(2).restStays();
        Edges.does(with(FOUR, 1, four, four, new int[] {1, 2, 13}, new int[] {1, 2, 1}), "leaves", 1, 0).is(-4).row(1).restStays();
        // At its begin alone: a degree higher on the hot stream by each 6, on the cold one by each 8.
        int[] six = {0, 4, 6};
        Edges.does(with(FIVE, 0, six, six, new int[] {1, 3, 8}, new int[] {0, 3, 30}), "leaves", 0, 0).is(3).rowStays()
                .becomes(with(FIVE, 0, six, new int[] {1, 3, 8}, new int[] {0, 3, 30}));
        Edges.does(with(FIVE, 0, six, six, new int[] {1, 3, 9}, new int[] {0, 3, 30}), "leaves", 0, 0).is(-4).row(2).restStays();
    }

    // ---- promise 30

    private static void loads() {
        Edges.sentence("Promise 30", "LOAD of a MATCH becomes v (1 or more; those behind it lie nearer, or farther): what it was");
        Edges.Maker two = with(SQUARE, 1, new int[] {0, 2, 10}, new int[] {1, 2, 50});
        Edges.does(two, "loads", 1, 0, 1).is(10).rowStays().becomes(with(SQUARE, 1, new int[] {0, 2, 1}, new int[] {1, 2, 50}));
        Edges.does(two, "loads", 1, 1, 1).is(50).rowStays().becomes(with(SQUARE, 1, new int[] {0, 2, 10}, new int[] {1, 2, 1}));
        Edges.does(two, "loads", 1, 0, 9).is(10).rowStays();
        Edges.does(two, "loads", 1, 0, 11).is(10).rowStays().becomes(with(SQUARE, 1, new int[] {0, 2, 11}, new int[] {1, 2, 50}));
        Edges.sentence("Promise 30", "-2: it is so");
        Edges.refuses(two, -2, "loads", 1, 0, 10);
        Edges.refuses(two, -2, "loads", 1, 1, 50);
        Edges.sentence("Promise 30", "-3: it is more than a REST and its own");
        Edges.does(two, "loads", 1, 0, 110).is(10).rowStays();
        Edges.refuses(two, -3, "loads", 1, 0, 111);
        Edges.does(two, "loads", 1, 1, 150).is(50).rowStays();
        Edges.refuses(two, -3, "loads", 1, 1, 151);
        Edges.refuses(two, -3, "loads", 1, 0, GREATEST);
        Edges.Maker hot = with(SQUARE, 1, new int[] {0, 2, 10}, new int[] {0, 3, 150});
        Edges.does(hot, "loads", 1, 0, 50).is(10).rowStays();
        Edges.refuses(hot, -3, "loads", 1, 0, 51);
        Edges.refuses(JOINED, -3, "loads", 0, 0, 481);
        Edges.does(JOINED, "loads", 0, 0, 479).is(480).rowStays();
        Edges.sentence("Promise 30", "NONE: none such, v below 1");
        noMatch(-1, "loads", 0, 0, 5);
        Edges.refuses(two, -1, "loads", 1, 0, 0);
        Edges.refuses(two, -1, "loads", 1, 0, -1);
        Edges.refuses(two, -1, "loads", 1, 0, LEAST);
        Edges.refuses(FOUR, -1, "loads", 0, 0, 1);
    }

    private static void loadsWidths() {
        Edges.sentence("Promise 30", "-4: some would not KEEP (the ROW: the first such)");
        Edges.Maker x = with(FOUR, 1, new int[] {0, 2, 4}, new int[] {1, 2, 12});
        // Another one behind it, and it itself.
        Edges.does(x, "loads", 1, 0, 3).is(-4).row(1).restStays();
        Edges.does(x, "loads", 1, 0, 5).is(4).rowStays();
        Edges.does(x, "loads", 1, 1, 11).is(12).rowStays();
        Edges.does(x, "loads", 1, 1, 13).is(-4).row(1).restStays();
        Edges.Maker y = with(FOUR, 1, new int[] {0, 2, 4}, new int[] {1, 2, 11}, new int[] {1, 2, 1});
        Edges.does(y, "loads", 1, 1, 12).is(-4).row(2).restStays();
        Edges.does(y, "loads", 1, 1, 13).is(-4).row(1).restStays();
        Edges.does(y, "loads", 1, 2, 2).is(-4).row(2).restStays();
        Edges.does(y, "loads", 1, 0, 3).is(-4).row(1).restStays();
        // At its begin alone, by 1 / 6 or 1 / 8 of a degree.
        Edges.Maker z = with(FIVE, 0, new int[] {0, 4, 6}, new int[] {1, 3, 8}, new int[] {0, 3, 30});
        Edges.does(z, "loads", 0, 0, 5).is(-4).row(2).restStays();
        Edges.does(z, "loads", 0, 0, 7).is(6).rowStays();
        Edges.does(z, "loads", 0, 1, 7).is(8).rowStays();
        Edges.does(z, "loads", 0, 1, 9).is(-4).row(2).restStays();
        // -3 ahead of -4.
        Edges.does(x, "loads", 1, 1, 180).is(-4).row(1).restStays();
        Edges.refuses(x, -3, "loads", 1, 1, 181);
    }

    // ---- promise 31

    private static void clears() {
        Edges.sentence("Promise 31", "All MATCHES of a SIDE go: how many");
        Edges.does(JOINED, "clears", 0).is(2).rowStays().matches("1:0+2*180 1:1+2*60");
        Edges.does(JOINED, "clears", 1).is(2).rowStays().matches("0:0+3*480 0:1+2*180");
        Edges.refuses(FOUR, 0, "clears", 0);
        Edges.refuses(FOUR, 0, "clears", 1);
        Edges.does(Edges.then(FOUR, ones(0, 1, 3, 24)), "clears", 0).is(24).rowStays().becomes(FOUR);
        Edges.does(with(FOUR, 0, new int[] {1, 3, 1}), "clears", 0).is(1).rowStays().becomes(FOUR);
        Edges.sentence("Promise 31", "NONE: no such SIDE");
        noSide(JOINED, -1, "clears", 0);
        noSide(NONE, -1, "clears", 0);
    }

    // ---- promise 32

    private static void left() {
        Edges.sentence("Promise 32", "how much heat crosses the PINCH by that (the former less FUEL)");
        Edges.asks(NONE, "left").is(0).row(0, 0);
        Edges.asks(FOUR, "left").is(940).row(1020, 900);
        Edges.asks(JOINED, "left").is(40).row(120, 0);
        Edges.asks(Edges.then(JOINED, x -> x.loads(0, 0, 479)), "left").is(41).row(121, 1);
        Edges.asks(Edges.then(JOINED, x -> x.leaves(1, 1)), "left").is(100).row(180, 60);
        Edges.asks(Edges.plant("c0-1*1"), "left").is(1).row(0, 0);
        Edges.asks(Edges.plant("h1-0*1"), "left").is(0).row(1, 0);
    }
}
