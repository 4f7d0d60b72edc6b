/** The edges that the document names in its terms and in the promises 1 to 9. */
public final class EdgesOfStreamsTest {
    private static final int GREATEST = Edges.GREATEST;
    private static final int LEAST = Edges.LEAST;
    private static final String ONE = "h10-5*2";
    private static final String NINE = (ONE + ",").repeat(8) + ONE;
    private static final String TEN = (ONE + ",").repeat(9) + ONE;

    public static void main(String[] args) {
        bounds();
        borders();
        fuelAndNoughts();
        sides();
        matchesGo();
        fractions();
        refusals();
        noneIsAhead();
        calls();
        newObject();
        newObjectRefuses();
        sign();
        end();
        streamsSigns();
        streamsNumbers();
        streamsCapacities();
        streamsEnds();
        streamsLeave();
        sets();
        setsKinds();
        gap();
        splits();
        drops();
        stream();
        Edges.ends(1, 9);
    }

    private static void reads(String text, int want) {
        Edges.does(Edges.unread(text), "streams").is(want);
    }

    // ---- terms

    private static void bounds() {
        Edges.sentence("Terms", "STREAMS 0, 1, .. (at most 10)");
        reads(NINE, 9);
        reads(TEN, 10);
        reads(TEN + "," + ONE, -80);
        Edges.does(Edges.plant(NINE), "splits", 0, 1).is(9);
        Edges.refuses(Edges.plant(TEN), -2, "splits", 0, 1);
        Edges.sentence("Terms", "FROM, TO 0 .. 500");
        reads("h500-0*1", 1);
        reads("h499-1*1", 1);
        reads("h501-0*1", -4);
        reads("c0-500*1", 1);
        reads("c0-501*1", -6);
        Edges.sentence("Terms", "CAPACITY 1 .. 20 (heat a degree)");
        reads("h1-0*0", -6);
        reads("h1-0*1", 1);
        reads("h1-0*20", 1);
        reads("h1-0*21", -7);
        Edges.asks(Edges.plant("h1-0*20"), "stream", 0, 4).is(20);
        Edges.sentence("Terms", "GAP 0 .. 60 (10 at first)");
        Edges.asks(Edges.unread(""), "count", 2).is(10);
        Edges.does(Edges.unread(""), "gap", 0).is(10);
        Edges.does(Edges.unread(""), "gap", 60).is(10);
        Edges.refuses(Edges.unread(""), -1, "gap", -1);
        Edges.refuses(Edges.unread(""), -1, "gap", 61);
    }

    private static void borders() {
        Edges.sentence("Terms", "each once, the greatest first (numbered 0, 1, ..)");
        // The hot one less 10: 10, 0, just as the cold one; a degree higher it has one of its own.
        Edges.asks(Edges.plant("h20-10*1,c0-10*1"), "fuel").is(0).row(0, 2);
        Edges.asks(Edges.plant("h21-10*1,c0-10*1"), "fuel").is(0).row(1, 3);
        Edges.asks(Edges.plant("h21-10*1,c0-10*1"), "border", 0).is(11).row(0, 1, 1, 0);
        Edges.asks(Edges.plant("h21-10*1,c0-10*1"), "border", 1).is(10).row(1, 0, 1, 1);
        Edges.asks(Edges.plant("h21-10*1,c0-10*1"), "border", 2).is(0).row(1, 0, 0, 0);
        Edges.asks(Edges.plant(TEN), "fuel").is(0).row(100, 2);
        // Where one ends and the next one begins there is one border.
        Edges.asks(Edges.plant("c0-10*1,c10-20*1"), "fuel").is(20).row(0, 3);
        Edges.asks(Edges.plant("c0-10*1,c11-20*1"), "fuel").is(19).row(0, 4);
        Edges.sentence("Terms", "SHELF k: from BORDER k down to BORDER k and 1");
        Edges.asks(Edges.plant("c0-10*1,c10-20*2"), "border", 1).is(10).row(10, -10, 0, 1);
        Edges.asks(Edges.plant("c0-10*1,c11-20*2"), "border", 1).is(11).row(10, 0, 0, 0);
    }

    private static void fuelAndNoughts() {
        Edges.sentence("Terms", "FUEL: the least, 0 or more, by which no CARRY is below 0");
        Edges.asks(Edges.plant(0, "h21-10*2,c0-7*3"), "fuel").is(0).row(1, 4);
        Edges.asks(Edges.plant(0, "h20-10*2,c0-10*2"), "fuel").is(0).row(0, 3);
        Edges.asks(Edges.plant(0, "h20-10*2,c0-7*3"), "fuel").is(1).row(0, 4);
        // What comes behind does not help what lacks ahead of it.
        Edges.asks(Edges.plant(0, "c20-21*1,h20-10*9"), "fuel").is(1).row(90, 3);
        Edges.sentence("Terms", "NOUGHTS: BORDERS of which the CARRY is 0");
        Edges.asks(Edges.plant(0, "h21-10*2,c0-7*3"), "pinch").is(1021).row(1021);
        Edges.asks(Edges.plant(0, "h20-10*2,c0-10*2"), "pinch").is(1020).row(1020, 1000);
        Edges.asks(Edges.plant(0, "h20-10*2,c0-7*3"), "pinch").is(1000).row(1000);
        Edges.sentence("Terms", "PINCH: the first of these (as a temperature of COLD streams; of HOT ones it is GAP more)");
        Edges.asks(Edges.plant(10, "h50-40*1"), "pinch").is(1040).row(1040);
        Edges.asks(Edges.plant(10, "h50-40*1"), "range", 1, 0).is(1).row(50, 40, 10, 10);
        Edges.asks(Edges.plant(10, "c40-50*1"), "pinch").is(1040).row(1040);
        Edges.asks(Edges.plant(10, "c40-50*1"), "range", 0, 0).is(1).row(40, 50, 10, 10);
    }

    private static void sides() {
        Edges.sentence("Terms", "NEAR (its temperature that is nearest to the PINCH), FAR (the other end of what it has there)");
        Edges.Maker four = Edges.plant(Edges.FOUR);
        Edges.asks(four, "range", 0, 0).is(1).row(90, 170, 480, 480);
        Edges.asks(four, "range", 1, 0).is(1).row(90, 60, 180, 180);
        Edges.asks(four, "range", 0, 2).is(1).row(80, 135, 220, 220);
        Edges.asks(four, "range", 1, 2).is(1).row(80, 20, 240, 240);
        Edges.sentence("Terms", "HEAT: CAPACITY times the degrees between (0: it is not there)");
        // The pinch is at 100: the first one ends a degree below it, at it, a degree above it.
        String more = ",c100-150*1,h100-50*9";
        Edges.asks(Edges.plant(0, "c0-99*2" + more), "range", 0, 0).is(0).row(0, 0, 0, 0);
        Edges.asks(Edges.plant(0, "c0-99*2" + more), "range", 1, 0).is(1).row(99, 0, 198, 198);
        Edges.asks(Edges.plant(0, "c0-100*2" + more), "range", 0, 0).is(0).row(0, 0, 0, 0);
        Edges.asks(Edges.plant(0, "c0-100*2" + more), "range", 1, 0).is(1).row(100, 0, 200, 200);
        Edges.asks(Edges.plant(0, "c0-101*2" + more), "range", 0, 0).is(1).row(100, 101, 2, 2);
        Edges.asks(Edges.plant(0, "c0-101*2" + more), "range", 1, 0).is(1).row(100, 0, 200, 200);
        // The same of a hot one, at 110.
        String most = "c0-100*2,c100-150*2,h110-60*9,h";
        Edges.asks(Edges.plant(10, most + "109-60*1"), "range", 0, 3).is(0).row(0, 0, 0, 0);
        Edges.asks(Edges.plant(10, most + "109-60*1"), "range", 1, 3).is(1).row(109, 60, 49, 49);
        Edges.asks(Edges.plant(10, most + "110-60*1"), "range", 0, 3).is(0).row(0, 0, 0, 0);
        Edges.asks(Edges.plant(10, most + "110-60*1"), "range", 1, 3).is(1).row(110, 60, 50, 50);
        Edges.asks(Edges.plant(10, most + "111-60*1"), "range", 0, 3).is(1).row(110, 111, 1, 1);
        Edges.asks(Edges.plant(10, most + "111-60*1"), "range", 1, 3).is(1).row(110, 60, 50, 50);
        Edges.asks(Edges.plant(10, most + "111-109*1"), "range", 1, 3).is(1).row(110, 109, 1, 1);
        Edges.asks(Edges.plant(10, most + "111-110*1"), "range", 1, 3).is(0).row(0, 0, 0, 0);
    }

    private static void matchesGo() {
        Edges.sentence("Terms", "(When a stream or GAP is another one, all MATCHES go.)");
        Edges.Maker joined = Edges.joined();
        Edges.does(joined, "sets", 0, 0, 171).is(170).rowStays().becomes(Edges.plant("h171" + Edges.FOUR.substring(4)));
        Edges.does(joined, "gap", 11).is(10).rowStays().becomes(Edges.plant(11, Edges.FOUR));
        Edges.does(joined, "splits", 3, 1).is(4).rowStays()
                .becomes(Edges.plant("h170-60*6,h150-30*3,c20-135*4,c80-140*7,c80-140*1"));
        Edges.does(joined, "drops", 3).is(3).rowStays().becomes(Edges.plant("h170-60*6,h150-30*3,c20-135*4"));
        Edges.does(joined, "streams").is(1).rowStays().becomes(Edges.then(Edges.plant("c7-9*2"), x -> x.end(0)));
        // Those that are as they were keep their matches: refused calls change nothing.
        Edges.refuses(joined, -2, "sets", 0, 0, 170);
        Edges.refuses(joined, -2, "gap", 10);
    }

    private static void fractions() {
        Edges.sentence("Terms", "Fractions: two numbers, in least terms, the second one above 0.");
        Edges.Maker x = Edges.plant("h10-0*4");
        Edges.asks(x, "level", 1, 1).is(0).row(39, 4);
        Edges.asks(x, "level", 1, 2).is(0).row(19, 2);
        Edges.asks(x, "level", 1, 4).is(0).row(9, 1);
        Edges.asks(x, "level", 1, 39).is(0).row(1, 4);
        Edges.asks(x, "level", 1, 40).is(0).row(0, 1);
    }

    private static void refusals() {
        Edges.sentence("Terms", "Refused calls answer NONE and change nothing but THE TEXT, which a call that reads it empties.");
        Edges.Maker wrong = Edges.then(Edges.joined(), x -> Edges.put(x, "x"));
        Edges.Maker without = Edges.then(Edges.joined(), x -> x.end(0));
        Edges.does(wrong, "streams").is(-7).rowStays().becomes(without);
        Edges.does(Edges.then(without, x -> Edges.put(x, "x")), "streams").is(-1).rowStays().becomes(without);
        Edges.refuses(wrong, -1, "sets", 0, 0, 501);
        Edges.refuses(wrong, 0, "end", 8);
        Edges.sentence("Terms", "the ROW stays with each answer below 0, but where it is said.");
        Edges.refuses(Edges.joined(), -2, "carry", 500);
        Edges.refuses(Edges.joined(), -2, "level", 0, 941);
        Edges.does(Edges.joined(), "leaves", 1, 0).is(-4).row(0).restStays();
        Edges.sentence("Terms", "ROW: numbers told last by a call that says so.");
        Edges.does(Edges.joined(), "clears", 0).is(2).rowStays();
        Edges.does(Edges.joined(), "most", 0, 0, 3).is(0).rowStays();
        Edges.does(Edges.joined(), "area", 0, 0).is(24).rowStays();
        Edges.does(Edges.joined(), "fuel").is(40).row(120, 6);
        Edges.sentence("Terms", "Questions change nothing.");
        Edges.asks(Edges.joined(), "by", 60).is(490).row(570, 1080);
        Edges.asks(Edges.joined(), "widest", 0).is(5).row(0);
        Edges.asks(Edges.joined(), "were", 0, 2, 1).is(470).row(0, 430);
        Edges.asks(Edges.joined(), "without", 0).is(580).row(0, 540);
        Edges.asks(Edges.joined(), "dearest").is(2).row(0);
        Edges.asks(Edges.joined(), "loops", 1).is(0).row(2, 3, 1);
        Edges.asks(Edges.joined(), "total").is(48).row(0, 0);
        Edges.asks(Edges.joined(), "left").is(40).row(120, 0);
    }

    /** Calls that could be answered by NONE and by another answer below 0 as well. */
    private static void noneIsAhead() {
        Edges.sentence("Terms", "NONE comes ahead of other answers below 0, these as they are told");
        Edges.refuses(Edges.joined(), -1, "sets", 0, 1, 501);
        Edges.refuses(Edges.joined(), -1, "sets", 2, 1, -1);
        Edges.refuses(Edges.joined(), -1, "were", 0, 0, -1);
        Edges.refuses(Edges.plant(TEN), -1, "splits", 0, 2);
        Edges.refuses(Edges.plant(TEN), -1, "splits", 10, 1);
        Edges.refuses(Edges.unread(""), -1, "carry", 501);
        Edges.refuses(Edges.unread(""), -1, "level", 1, 0);
        Edges.refuses(Edges.unread(""), -1, "by", 61);
        // All of joined's hot streams above are used up: -3 comes, too, but ahead of it NONE.
        Edges.refuses(Edges.joined(), -1, "joins", 0, 0, 3, 0);
        Edges.refuses(Edges.joined(), -3, "joins", 0, 0, 3, 1);
        Edges.refuses(Edges.joined(), -1, "loads", 0, 2, 480);
        Edges.refuses(Edges.joined(), -1, "loads", 0, 0, 0);
    }

    private static void calls() {
        Edges.sentence("What it is", "An object is used for at most 512 calls after it has been made");
        // 22 calls by joined(), 484 here, and 5 that look at the ROW: then comes the 512th.
        Edges.Maker busy = Edges.then(Edges.joined(), x -> {
            for (int k = 0; k < 121; k++) {
                x.clears(1);
                x.ticks(1);
                x.dearest();
                x.range(0, 0);
            }
        });
        Edges.does(busy, "left").is(40);
        Edges.does(busy, "total").is(48);
        Edges.does(busy, "loads", 1, 0, 100).is(180);
        Edges.does(busy, "streams").is(1);
    }

    // ---- promise 1

    private static void newObject() {
        Edges.sentence("Promise 1", "No STREAMS.");
        Edges.Maker fresh = Edges.unread("");
        int[] counts = {0, 0, 10, 0, 0, 0, 0, 0, 0, -1};
        for (int what = 0; what < counts.length; what++) {
            Edges.refuses(fresh, counts[what], "count", what);
        }
        Edges.does(fresh, "sign", 0).is(4).rowStays();
        Edges.refuses(fresh, 1, "end", 0);
        Edges.refuses(fresh, 0, "streams");
        Edges.asks(fresh, "fuel").is(0).row(0, 0);
        Edges.asks(fresh, "above", 1, 0).is(0).row(0);
        Edges.asks(fresh, "above", 0, 500).is(0).row(0);
        Edges.asks(fresh, "widest", 0).is(60).row(0);
        for (int side = 0; side < 2; side++) {
            Edges.asks(fresh, "arrive", side).is(0).row(0, 1, 1);
            Edges.asks(fresh, "ticks", side).is(0).row(0, 0);
            Edges.asks(fresh, "loops", side).is(0).row(0, 0, 0);
            Edges.refuses(fresh, 0, "clears", side);
        }
        Edges.asks(fresh, "total").is(0).row(0, -1);
        Edges.asks(fresh, "left").is(0).row(0, 0);
    }

    private static void newObjectRefuses() {
        Edges.Maker fresh = Edges.unread("");
        Edges.refuses(fresh, 0, "end", 1);
        Edges.refuses(fresh, -1, "sets", 0, 0, 1);
        Edges.refuses(fresh, -2, "gap", 10);
        Edges.refuses(fresh, -1, "splits", 0, 1);
        Edges.refuses(fresh, -1, "drops", 0);
        Edges.fails(fresh, "stream", 0, 0);
        Edges.fails(fresh, "border", 0);
        Edges.refuses(fresh, -2, "pinch");
        Edges.refuses(fresh, -2, "carry", 0);
        Edges.refuses(fresh, -2, "level", 1, 1);
        Edges.refuses(fresh, -2, "by", 10);
        Edges.refuses(fresh, -1, "were", 0, 0, 1);
        Edges.refuses(fresh, -1, "without", 0);
        Edges.refuses(fresh, -2, "dearest");
        Edges.fails(fresh, "row", 0);
        for (int side = 0; side < 2; side++) {
            Edges.refuses(fresh, -1, "range", side, 0);
            Edges.refuses(fresh, -1, "joins", side, 0, 0, 1);
            Edges.refuses(fresh, -1, "most", side, 0, 0);
            Edges.fails(fresh, "match", side, 0, 0);
            Edges.refuses(fresh, -1, "area", side, 0);
            Edges.refuses(fresh, -1, "leaves", side, 0);
            Edges.refuses(fresh, -1, "loads", side, 0, 1);
            Edges.refuses(fresh, -1, "loop", side, 0);
            Edges.refuses(fresh, -1, "breaks", side, 0);
        }
    }

    // ---- promise 2

    private static void sign() {
        Edges.sentence("Promise 2", "Refused: there would be more than 120.");
        for (int signs = 0; signs <= 120; signs++) {
            Edges.Maker x = Edges.unread("7".repeat(signs));
            if (signs <= 116) {
                Edges.does(x, "sign", 0x37373737).is(signs + 4).rowStays().becomes(Edges.unread("7".repeat(signs + 4)));
            } else {
                Edges.refuses(x, -1, "sign", 0x37373737);
            }
        }
        Edges.sentence("Promise 2", "of v the highest byte first: how many it has");
        Edges.Maker half = Edges.then(Edges.unread("h5-"), x -> x.sign('4' << 24 | '*' << 16 | '7' << 8 | ','));
        Edges.does(half, "end", 6).is(1).becomes(Edges.unread("h5-4*7"));
        // A byte of 128 or more is a sign of its own: no sign of a stream is taken from it.
        Edges.does(Edges.then(Edges.unread(""), x -> x.sign('h' + 128 << 24)), "streams").is(-1);
        Edges.does(Edges.then(Edges.unread(""), x -> x.sign('h' << 24 | '5' + 128 << 16)), "streams").is(-2);
        Edges.does(Edges.unread(""), "sign", -1).is(4);
        Edges.does(Edges.unread(""), "sign", LEAST).is(4);
        Edges.does(Edges.unread(""), "sign", GREATEST).is(4);
    }

    // ---- promise 3

    private static void end() {
        Edges.sentence("Promise 3", "THE TEXT has its first n signs alone: true");
        Edges.Maker x = Edges.then(Edges.plant(Edges.FOUR), y -> Edges.put(y, ",c1-2*3"));
        Edges.refuses(x, 1, "end", 13);
        Edges.does(x, "end", 12).is(1).rowStays().becomes(Edges.then(Edges.plant(Edges.FOUR), y -> Edges.put(y, ",c1-2*")));
        Edges.does(x, "end", 6).is(1).rowStays().becomes(Edges.plant(Edges.FOUR));
        Edges.does(x, "end", 0).is(1).rowStays();
        Edges.does(Edges.then(x, y -> y.end(0)), "count", 8).is(0);
        Edges.sentence("Promise 3", "false if it has not so many, or n is below 0");
        Edges.refuses(x, 0, "end", 14);
        Edges.refuses(x, 0, "end", -1);
        Edges.refusesFar(x, 0, "end", 0, 0);
        Edges.refuses(Edges.unread(""), 1, "end", 0);
        Edges.refuses(Edges.unread(""), 0, "end", 1);
        Edges.refuses(Edges.unread("7".repeat(120)), 1, "end", 120);
        Edges.refuses(Edges.unread("7".repeat(120)), 0, "end", 121);
        // What was cut off does not come back.
        Edges.refuses(Edges.then(x, y -> y.end(6)), 0, "end", 7);
    }

    // ---- promise 4

    private static void streamsSigns() {
        Edges.sentence("Promise 4", "THE TEXT is all STREAMS, with commas between (an empty one: none)");
        reads("", 0);
        reads(ONE, 1);
        reads(ONE + "," + ONE, 2);
        Edges.does(Edges.then(Edges.joined(), x -> x.end(0)), "streams").is(0).rowStays().becomes(Edges.unread(""));
        Edges.sentence("Promise 4", "-1 - p: the sign at p can't stand there");
        String good = "h10-5*2,c5-60*2";
        for (int p = 0; p < good.length(); p++) {
            for (char c : new char[] {0, ' ', '#', '.', '/', ':', '+', 'g', 'i', 'b', 'd', 'H', 'C', 127, 128, 255}) {
                reads(good.substring(0, p) + c + good.substring(p + 1), -1 - p);
            }
        }
        reads(good + ";", -1 - 15);
        reads(",", -1);
        reads(ONE + ",,", -1 - 8);
        reads("," + ONE, -1);
        reads(" " + ONE, -1);
        reads(ONE + " ", -1 - 7);
        Edges.sentence("Promise 4", "the comma of an 11th");
        reads(TEN + ",", -80);
        reads(TEN + "," + ONE, -80);
        reads(TEN + ",x", -80);
        reads(TEN + ";", -80);
        reads(NINE + ",", -1 - 72);
        // The longest that can stand has 119 signs.
        String longest = ("h500-100*20,").repeat(9) + "h500-100*20";
        reads(longest, 10);
        reads(longest + ",", -120);
        reads(longest + "0", -120);
    }

    private static void streamsNumbers() {
        Edges.sentence("Promise 4", "FROM (one to three digits), -, TO (likewise), *");
        reads("h-5*1", -2);
        reads("h7-5*1", 1);
        reads("h17-5*1", 1);
        reads("h117-5*1", 1);
        reads("h007-005*1", 1);
        reads("c000-001*1", 1);
        reads("h9-*1", -4);
        reads("h90-15*1", 1);
        Edges.sentence("Promise 4", "of a temperature above 500");
        reads("h500-5*1", 1);
        reads("h501-5*1", -4);
        reads("h999-5*1", -4);
        reads("c499-500*1", 1);
        reads("c499-501*1", -8);
        reads("c501-502*1", -4);
        reads("h10-501*1", -7);
        Edges.sentence("Promise 4", "of a TO on the wrong side or FROM itself");
        reads("h10-9*1", 1);
        reads("h10-10*1", -6);
        reads("h10-11*1", -6);
        reads("h10-010*1", -7);
        reads("c10-11*1", 1);
        reads("c10-10*1", -6);
        reads("c10-9*1", -5);
        reads("h1-0*1", 1);
        reads("h0-0*1", -4);
        reads("c499-500*1", 1);
        reads("c500-500*1", -8);
        Edges.sentence("Promise 4", "a digit too many, ahead of that");
        reads("h0500-5*1", -5);
        reads("h5010-5*1", -5);
        reads("h9999-5*1", -5);
        reads("h10-0005*1", -8);
        reads("h10-0010*1", -8);
        reads("c10-5010*1", -8);
        // A wrong number comes ahead of a wrong sign behind it.
        reads("h501x", -4);
        reads("h10-10x", -6);
        reads("c5-1x", -1 - 3);
    }

    private static void streamsCapacities() {
        Edges.sentence("Promise 4", "CAPACITY (one or two digits)");
        reads("h1-0*", -6);
        reads("h1-0*7", 1);
        reads("h1-0*07", 1);
        Edges.does(Edges.then(Edges.unread("h1-0*07"), HeatPinch::streams), "stream", 0, 3).is(7);
        Edges.sentence("Promise 4", "of a CAPACITY 0 or above 20: its last digit");
        reads("h1-0*0", -6);
        reads("h1-0*00", -7);
        reads("h1-0*1", 1);
        reads("h1-0*01", 1);
        reads("h1-0*19", 1);
        reads("h1-0*20", 1);
        reads("h1-0*21", -7);
        reads("h1-0*99", -7);
        reads("h1-0*21,", -7);
        reads("h1-0*000", -8);
        reads("h1-0*001", -8);
        reads("h1-0*200", -8);
        reads("h1-0*210", -8);
    }

    private static void streamsEnds() {
        Edges.sentence("Promise 4", "its end, if it ends too early");
        String text = "h500-100*12,c0-90*3,h7-6*5";
        for (int n = 1; n <= text.length(); n++) {
            boolean first = n == 10 || n == 11;
            boolean second = n == 19;
            boolean third = n == 26;
            int due = first ? 1 : second ? 2 : third ? 3 : -1 - n;
            reads(text.substring(0, n), due);
            // Signs that have been cut off lie behind the end, and do not count.
            int cut = n;
            Edges.does(Edges.then(Edges.unread(text), x -> x.end(cut)), "streams").is(due);
        }
        reads(("h500-100*20,").repeat(9) + "h500-100*", -118);
    }

    private static void streamsLeave() {
        Edges.sentence("Promise 4", "how many");
        Edges.Maker ten = Edges.unread(TEN);
        Edges.does(ten, "streams").is(10).rowStays();
        Edges.asks(Edges.then(ten, HeatPinch::streams), "count", 8).is(0);
        // A text that is wrong at its end changes no stream either.
        Edges.Maker late = Edges.then(Edges.joined(), x -> {
            x.end(0);
            Edges.put(x, "c1-2*3,c4-5*6,h9-9*1");
        });
        Edges.does(late, "streams").is(-1 - 17).rowStays().becomes(Edges.then(Edges.joined(), x -> x.end(0)));
        Edges.asks(Edges.then(late, HeatPinch::streams), "count", 8).is(0);
    }

    // ---- promise 5

    private static void sets() {
        Edges.sentence("Promise 5", "becomes v: what it was");
        Edges.Maker x = Edges.joined();
        String more = Edges.FOUR.substring(Edges.FOUR.indexOf(','));
        Edges.does(x, "sets", 0, 0, 500).is(170).rowStays().becomes(Edges.plant("h500-60*6" + more));
        Edges.does(x, "sets", 0, 1, 0).is(60).rowStays().becomes(Edges.plant("h170-0*6" + more));
        Edges.does(x, "sets", 0, 2, 1).is(6).rowStays().becomes(Edges.plant("h170-60*1" + more));
        Edges.does(x, "sets", 0, 2, 20).is(6).rowStays().becomes(Edges.plant("h170-60*20" + more));
        Edges.does(x, "sets", 3, 2, 20).is(8).rowStays();
        Edges.does(x, "sets", 3, 1, 500).is(140).rowStays();
        Edges.does(x, "sets", 2, 0, 0).is(20).rowStays();
        Edges.sentence("Promise 5", "-2: it is so");
        Edges.refuses(x, -2, "sets", 0, 0, 170);
        Edges.refuses(x, -2, "sets", 0, 1, 60);
        Edges.refuses(x, -2, "sets", 0, 2, 6);
        Edges.refuses(x, -2, "sets", 3, 1, 140);
        Edges.does(x, "sets", 0, 0, 169).is(170);
        Edges.does(x, "sets", 0, 0, 171).is(170);
        Edges.does(x, "sets", 0, 2, 5).is(6);
        Edges.does(x, "sets", 0, 2, 7).is(6);
        Edges.sentence("Promise 5", "NONE: no such STREAM, another what, v out of bounds");
        Edges.refuses(x, -1, "sets", -1, 0, 100);
        Edges.refuses(x, -1, "sets", 4, 0, 100);
        Edges.refusesFar(x, -1, "sets", 0, 0, 0, 100);
        Edges.refuses(x, -1, "sets", 0, -1, 10);
        Edges.refuses(x, -1, "sets", 0, 3, 10);
        Edges.refusesFar(x, -1, "sets", 1, 0, 0, 10);
        Edges.refuses(x, -1, "sets", 0, 0, 501);
        Edges.refuses(x, -1, "sets", 0, 1, -1);
        Edges.refuses(x, -1, "sets", 2, 0, -1);
        Edges.refuses(x, -1, "sets", 3, 1, 501);
        Edges.refuses(x, -1, "sets", 0, 2, 0);
        Edges.refuses(x, -1, "sets", 0, 2, -1);
        Edges.refuses(x, -1, "sets", 0, 2, 21);
        for (int what = 0; what < 3; what++) {
            Edges.refusesFar(x, -1, "sets", 2, 0, what, 0);
        }
        Edges.does(Edges.plant(TEN), "sets", 9, 2, 3).is(2);
        Edges.refuses(Edges.plant(TEN), -1, "sets", 10, 2, 3);
    }

    private static void setsKinds() {
        Edges.sentence("Promise 5", "-3: it would not be HOT, or COLD, as it is");
        Edges.Maker x = Edges.joined();
        Edges.does(x, "sets", 0, 0, 61).is(170);
        Edges.refuses(x, -3, "sets", 0, 0, 60);
        Edges.refuses(x, -3, "sets", 0, 0, 59);
        Edges.refuses(x, -3, "sets", 0, 0, 0);
        Edges.does(x, "sets", 0, 1, 169).is(60);
        Edges.refuses(x, -3, "sets", 0, 1, 170);
        Edges.refuses(x, -3, "sets", 0, 1, 171);
        Edges.refuses(x, -3, "sets", 0, 1, 500);
        Edges.does(x, "sets", 3, 0, 139).is(80);
        Edges.refuses(x, -3, "sets", 3, 0, 140);
        Edges.refuses(x, -3, "sets", 3, 0, 141);
        Edges.refuses(x, -3, "sets", 3, 0, 500);
        Edges.does(x, "sets", 3, 1, 81).is(140);
        Edges.refuses(x, -3, "sets", 3, 1, 80);
        Edges.refuses(x, -3, "sets", 3, 1, 79);
        Edges.refuses(x, -3, "sets", 3, 1, 0);
    }

    // ---- promise 6

    private static void gap() {
        Edges.sentence("Promise 6", "GAP becomes v: what it was");
        Edges.Maker x = Edges.joined();
        for (int v : new int[] {0, 1, 9, 11, 59, 60}) {
            Edges.does(x, "gap", v).is(10).rowStays().becomes(Edges.plant(v, Edges.FOUR));
        }
        Edges.does(Edges.plant(60, Edges.FOUR), "gap", 10).is(60).becomes(Edges.plant(Edges.FOUR));
        Edges.sentence("Promise 6", "-2: it is so");
        Edges.refuses(x, -2, "gap", 10);
        Edges.refuses(Edges.plant(0, Edges.FOUR), -2, "gap", 0);
        Edges.refuses(Edges.plant(60, Edges.FOUR), -2, "gap", 60);
        Edges.sentence("Promise 6", "NONE: another v");
        Edges.refuses(x, -1, "gap", -1);
        Edges.refuses(x, -1, "gap", 61);
        Edges.refusesFar(x, -1, "gap", 0, 0);
    }

    // ---- promise 7

    private static void splits() {
        Edges.sentence("Promise 7", "(its number, and the next free one): the second one has CAPACITY v of it: its number");
        Edges.Maker x = Edges.joined();
        String more = Edges.FOUR.substring(Edges.FOUR.indexOf(','));
        Edges.does(x, "splits", 0, 1).is(4).rowStays().becomes(Edges.plant("h170-60*5" + more + ",h170-60*1"));
        Edges.does(x, "splits", 0, 5).is(4).rowStays().becomes(Edges.plant("h170-60*1" + more + ",h170-60*5"));
        Edges.does(x, "splits", 3, 7).is(4).rowStays()
                .becomes(Edges.plant("h170-60*6,h150-30*3,c20-135*4,c80-140*1,c80-140*7"));
        Edges.sentence("Promise 7", "-2: there are ten");
        Edges.does(Edges.plant(NINE), "splits", 8, 1).is(9).rowStays()
                .becomes(Edges.plant((ONE + ",").repeat(8) + "h10-5*1,h10-5*1"));
        Edges.refuses(Edges.plant(TEN), -2, "splits", 0, 1);
        Edges.refuses(Edges.plant(TEN), -2, "splits", 9, 1);
        Edges.sentence("Promise 7", "NONE: no such STREAM, v is not 1 .. CAPACITY less 1");
        Edges.refuses(x, -1, "splits", -1, 1);
        Edges.refuses(x, -1, "splits", 4, 1);
        Edges.refusesFar(x, -1, "splits", 0, 0, 1);
        Edges.refuses(x, -1, "splits", 0, -1);
        Edges.refuses(x, -1, "splits", 0, 0);
        Edges.refuses(x, -1, "splits", 0, 6);
        Edges.refuses(x, -1, "splits", 0, 7);
        Edges.refusesFar(x, -1, "splits", 1, 0, 0);
        Edges.refuses(Edges.plant("h9-0*1"), -1, "splits", 0, 1);
        Edges.refuses(Edges.plant("h9-0*1"), -1, "splits", 0, 0);
        Edges.does(Edges.plant("h9-0*2"), "splits", 0, 1).is(1).becomes(Edges.plant("h9-0*1,h9-0*1"));
        Edges.refuses(Edges.plant("h9-0*2"), -1, "splits", 0, 2);
        Edges.does(Edges.plant("c0-9*20"), "splits", 0, 19).is(1).becomes(Edges.plant("c0-9*1,c0-9*19"));
        Edges.refuses(Edges.plant("c0-9*20"), -1, "splits", 0, 20);
    }

    // ---- promise 8

    private static void drops() {
        Edges.sentence("Promise 8", "A STREAM goes (those behind it get a number less): how many are left");
        Edges.Maker x = Edges.joined();
        String[] four = Edges.FOUR.split(",");
        for (int i = 0; i < 4; i++) {
            StringBuilder left = new StringBuilder();
            for (int k = 0; k < 4; k++) {
                left.append(k == i ? "" : "," + four[k]);
            }
            Edges.does(x, "drops", i).is(3).rowStays().becomes(Edges.plant(left.substring(1)));
        }
        Edges.does(Edges.plant(ONE), "drops", 0).is(0).rowStays();
        Edges.refuses(Edges.then(Edges.plant(ONE), y -> y.drops(0)), -1, "drops", 0);
        Edges.does(Edges.plant(TEN), "drops", 9).is(9).becomes(Edges.plant(NINE));
        Edges.does(Edges.then(Edges.plant(TEN), y -> y.drops(0)), "splits", 0, 1).is(9);
        Edges.sentence("Promise 8", "NONE: none such");
        Edges.refuses(x, -1, "drops", -1);
        Edges.refuses(x, -1, "drops", 4);
        Edges.refusesFar(x, -1, "drops", 0, 0);
        Edges.refuses(Edges.plant(TEN), -1, "drops", 10);
    }

    // ---- promise 9

    private static void stream() {
        Edges.sentence("Promise 9", "what 0: 1 if it is HOT, else 0, 1: FROM, 2: TO, 3: CAPACITY, 4: all of its heat");
        Edges.Maker x = Edges.plant("h500-0*20,c0-1*1");
        int[][] due = {{1, 500, 0, 20, 10000}, {0, 0, 1, 1, 1}};
        for (int i = 0; i < 2; i++) {
            for (int what = 0; what < 5; what++) {
                Edges.refuses(x, due[i][what], "stream", i, what);
            }
        }
        Edges.refuses(Edges.plant(TEN), 10, "stream", 9, 1);
        Edges.refuses(Edges.plant("h500-499*20,c3-5*7"), 20, "stream", 0, 4);
        Edges.refuses(Edges.plant("h500-499*20,c3-5*7"), 14, "stream", 1, 4);
        Edges.sentence("Promise 9", "NoSuchElementException: none such, another what");
        Edges.fails(x, "stream", -1, 0);
        Edges.fails(x, "stream", 2, 0);
        Edges.refusesFar(x, Edges.THREW, "stream", 0, 0, 0);
        Edges.fails(x, "stream", 0, -1);
        Edges.fails(x, "stream", 0, 5);
        Edges.refusesFar(x, Edges.THREW, "stream", 1, 0, 0);
        Edges.fails(Edges.plant(TEN), "stream", 10, 0);
        Edges.fails(Edges.then(x, y -> y.drops(1)), "stream", 1, 0);
    }
}
