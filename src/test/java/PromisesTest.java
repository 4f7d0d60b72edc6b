import java.util.ArrayList;
import java.util.List;
import java.util.NoSuchElementException;

/** For each promise of the document ordinary inputs, its edges and wrong inputs, reckoned by hand. */
public final class PromisesTest {
    private static final String FOUR = "h170-60*6,h150-30*3,c20-135*4,c80-140*8";
    private static final String TEN =
            "h10-5*1,h10-5*1,h10-5*1,h10-5*1,h10-5*1,h10-5*1,h10-5*1,h10-5*1,h10-5*1,h10-5*1";
    private static final int LEAST = Integer.MIN_VALUE;
    private static final int GREATEST = Integer.MAX_VALUE;

    private interface Call {
        long get();
    }

    private static int wrong = 0;
    private static int promise = 0;

    public static void main(String[] args) {
        promise = 1; newObject();
        promise = 2; sign();
        promise = 3; end();
        promise = 4; streams();
        promise = 5; sets();
        promise = 6; gap();
        promise = 7; splits();
        promise = 8; drops();
        promise = 9; stream();
        promise = 10; border();
        promise = 11; fuel();
        promise = 12; pinch();
        promise = 13; carry();
        promise = 14; above();
        promise = 15; level();
        promise = 16; by();
        promise = 17; widest();
        promise = 18; were();
        promise = 19; without();
        promise = 20; dearest();
        promise = 21; arrive();
        promise = 22; range();
        promise = 23; joins();
        promise = 24; most();
        promise = 25; ticks();
        promise = 26; match();
        promise = 27; area();
        promise = 28; total();
        promise = 29; leaves();
        promise = 30; loads();
        promise = 31; clears();
        promise = 32; left();
        promise = 33; loops();
        promise = 34; loop();
        promise = 35; breaks();
        promise = 36; count();
        promise = 37; row();
        System.out.println(wrong == 0 ? "all promises hold" : wrong + " answers are wrong");
        if (wrong != 0) {
            System.exit(1);
        }
    }

    // ---- help

    private static void is(String what, long got, long want) {
        if (got != want) {
            wrong++;
            System.out.println("promise " + promise + ": " + what + " answered " + got + ", due is " + want);
        }
    }

    private static void rowIs(String what, HeatPinch x, long... want) {
        List<Long> got = new ArrayList<>();
        for (int i = 0; i < x.count(7); i++) {
            got.add(x.row(i));
        }
        List<Long> due = new ArrayList<>();
        for (long v : want) {
            due.add(v);
        }
        if (!got.equals(due)) {
            wrong++;
            System.out.println("promise " + promise + ": " + what + ": the row is " + got + ", due is " + due);
        }
    }

    private static void fails(String what, Call call) {
        try {
            long got = call.get();
            wrong++;
            System.out.println("promise " + promise + ": " + what + " answered " + got + ", due is an exception");
        } catch (NoSuchElementException e) {
            return;
        }
    }

    private static void put(HeatPinch x, String text) {
        int before = x.count(8);
        for (int i = 0; i < text.length(); i += 4) {
            int v = 0;
            for (int k = i; k < i + 4; k++) {
                v = v << 8 | (k < text.length() ? text.charAt(k) : 0);
            }
            x.sign(v);
        }
        x.end(before + text.length());
    }

    private static HeatPinch plant(String text) {
        HeatPinch x = new HeatPinch();
        put(x, text);
        int got = x.streams();
        int due = text.isEmpty() ? 0 : text.split(",").length;
        is("streams of " + text, got, due);
        return x;
    }

    private static HeatPinch plant(int gap, String text) {
        HeatPinch x = plant(text);
        x.gap(gap);
        return x;
    }

    private static int read(String text) {
        HeatPinch x = new HeatPinch();
        put(x, text);
        return x.streams();
    }

    /** All that can be asked of streams and matches, to see that a refused call changes nothing. */
    private static String state(HeatPinch x) {
        StringBuilder s = new StringBuilder();
        for (int w = 0; w < 9; w++) {
            s.append(x.count(w)).append(' ');
        }
        for (int i = 0; i < x.count(7); i++) {
            s.append(x.row(i)).append(' ');
        }
        for (int i = 0; i < x.count(0); i++) {
            for (int w = 0; w < 5; w++) {
                s.append(x.stream(i, w)).append(' ');
            }
        }
        return s.toString();
    }

    private static String matches(HeatPinch x) {
        StringBuilder s = new StringBuilder();
        for (int side = 0; side < 2; side++) {
            for (int i = 0; i < x.count(3 + side); i++) {
                s.append(side).append(':').append(x.match(side, i, 0)).append('+');
                s.append(x.match(side, i, 1)).append('*').append(x.match(side, i, 2)).append(' ');
            }
        }
        return s.toString().trim();
    }

    private static void same(String what, String got, String want) {
        if (!got.equals(want)) {
            wrong++;
            System.out.println("promise " + promise + ": " + what + " is '" + got + "', due is '" + want + "'");
        }
    }

    private static void refused(String what, HeatPinch x, Call call, long want) {
        String before = state(x);
        is(what, call.get(), want);
        same("what " + what + " left", state(x), before);
    }

    /** Two hot and two cold streams at one pinch with nothing in the way: 400 heat each, below it. */
    private static HeatPinch square() {
        return plant(0, "h100-50*4,h100-50*4,c0-40*4,c0-40*4");
    }

    // ---- promises

    private static void newObject() {
        HeatPinch x = new HeatPinch();
        for (int w = 0; w < 9; w++) {
            is("count(" + w + ")", x.count(w), w == 2 ? 10 : 0);
        }
        fails("stream(0, 0)", () -> x.stream(0, 0));
        fails("border(0)", () -> x.border(0));
    }

    private static void sign() {
        HeatPinch x = new HeatPinch();
        is("sign", x.sign('h' << 24 | '9' << 16 | '-' << 8 | '5'), 4);
        is("sign", x.sign('*' << 24 | '7' << 16), 8);
        is("end", x.end(6) ? 1 : 0, 1);
        is("streams", x.streams(), 1);
        is("FROM", x.stream(0, 1), 9);
        is("TO", x.stream(0, 2), 5);
        is("CAPACITY", x.stream(0, 3), 7);
        for (int k = 1; k <= 30; k++) {
            is("sign " + k, x.sign(-k), 4 * k);
        }
        refused("sign of a full text", x, () -> x.sign(0), -1);
        x.end(117);
        refused("sign with 117 signs", x, () -> x.sign(0), -1);
        x.end(116);
        is("sign with 116 signs", x.sign(0), 120);
        HeatPinch y = new HeatPinch();
        y.sign(0x80ffffff);
        is("a sign of 128 can't stand", y.streams(), -1);
    }

    private static void end() {
        HeatPinch x = new HeatPinch();
        is("end(0) of none", x.end(0) ? 1 : 0, 1);
        is("end(1) of none", x.end(1) ? 1 : 0, 0);
        put(x, "h9-5*7,c");
        is("end(-1)", x.end(-1) ? 1 : 0, 0);
        is("end(least)", x.end(LEAST) ? 1 : 0, 0);
        is("end(9)", x.end(9) ? 1 : 0, 0);
        is("end(greatest)", x.end(GREATEST) ? 1 : 0, 0);
        is("signs", x.count(8), 8);
        is("end(8)", x.end(8) ? 1 : 0, 1);
        is("end(6)", x.end(6) ? 1 : 0, 1);
        is("signs", x.count(8), 6);
        is("end(8) of 6", x.end(8) ? 1 : 0, 0);
        is("streams", x.streams(), 1);
    }

    private static void streams() {
        is("none", read(""), 0);
        is("one", read("h1-0*1"), 1);
        is("leading noughts", read("h010-005*01"), 1);
        is("bounds", read("h500-0*20,c0-500*20"), 2);
        is("ten", read(TEN), 10);
        is("an 11th", read(TEN + ",h10-5*1"), -1 - 79);
        is("ten and a wrong sign", read(TEN + ";"), -1 - 79);
        is("x", read("x"), -1);
        is("H", read("H1-0*1"), -1);
        is("a comma alone", read(","), -1);
        is("h", read("h"), -2);
        is("h-", read("h-1*1"), -2);
        is("h1", read("h1"), -3);
        is("h1x", read("h1x"), -3);
        is("h1-", read("h1-"), -4);
        is("h1-x", read("h1-x"), -4);
        is("h1-0", read("h1-0"), -5);
        is("h1-0-", read("h1-0-"), -5);
        is("h1-0*", read("h1-0*"), -6);
        is("h1-0**", read("h1-0**"), -6);
        is("h1-0*1x", read("h1-0*1x"), -7);
        is("h1-0*1,", read("h1-0*1,"), -8);
        is("h1-0*1,x", read("h1-0*1,x"), -8);
        is("h501", read("h501-0*1"), -4);
        is("h501 and its end", read("h501"), -4);
        is("h999x", read("h999x"), -4);
        is("h5000", read("h5000-0*1"), -5);
        is("h9999: a digit too many comes first", read("h9999-0*1"), -5);
        is("c1-501", read("c1-501*1"), -6);
        is("c1-5010", read("c1-5010*1"), -7);
        is("c1-0000", read("c1-0000*1"), -7);
        is("h10-10", read("h10-10*1"), -6);
        is("h10-11", read("h10-11*1"), -6);
        is("h10-011", read("h10-011*1"), -7);
        is("c10-10", read("c10-10*1"), -6);
        is("c10-9", read("c10-9*1"), -5);
        is("h0-0", read("h0-0*1"), -4);
        is("c500-500", read("c500-500*1"), -8);
        is("*0", read("h1-0*0"), -6);
        is("*00", read("h1-0*00"), -7);
        is("*21", read("h1-0*21"), -7);
        is("*99x", read("h1-0*99x"), -7);
        is("*210", read("h1-0*210"), -8);
        is("*000", read("h1-0*000"), -8);
        is("h0100", read("h0100-5*1"), -5);
        is("h10-0005", read("h10-0005*1"), -8);
        is("*010", read("h1-0*010"), -8);
        is("second wrong", read("h1-0*1,c5-5*1"), -1 - 10);
        is("sign / (ahead of 0)", read("h/-0*1"), -2);
        is("sign : (behind 9)", read("h:-0*1"), -2);
        cutTexts();
        HeatPinch x = plant(FOUR);
        x.fuel();
        x.joins(0, 0, 3, 5);
        put(x, "h5-5*1");
        is("a wrong text", x.streams(), -4);
        is("streams stay", x.count(0), 4);
        is("matches stay", x.count(3), 1);
        is("the text is empty", x.count(8), 0);
        rowIs("the row stays", x, 475, 475);
        put(x, "c7-9*2");
        is("other streams", x.streams(), 1);
        is("the text is empty", x.count(8), 0);
        is("matches go", x.count(3), 0);
        rowIs("the row stays", x, 475, 475);
        is("streams of no text", x.streams(), 0);
        is("no streams", x.count(0), 0);
    }

    /** Signs behind the end still lie there, but do not count. */
    private static void cutTexts() {
        String text = "h500-100*12,c0-90*3";
        for (int n = 1; n < text.length(); n++) {
            HeatPinch x = new HeatPinch();
            put(x, text);
            x.end(n);
            boolean whole = n == 10 || n == 11;
            is(n + " signs", x.streams(), whole ? 1 : -1 - n);
        }
    }

    private static void sets() {
        HeatPinch x = plant(FOUR);
        x.joins(0, 0, 3, 5);
        x.joins(1, 0, 2, 5);
        refused("FROM so", x, () -> x.sets(0, 0, 170), -2);
        refused("TO so", x, () -> x.sets(0, 1, 60), -2);
        refused("CAPACITY so", x, () -> x.sets(0, 2, 6), -2);
        refused("FROM as TO", x, () -> x.sets(0, 0, 60), -3);
        refused("FROM below TO", x, () -> x.sets(0, 0, 0), -3);
        refused("TO above FROM", x, () -> x.sets(0, 1, 500), -3);
        refused("cold FROM as TO", x, () -> x.sets(2, 0, 135), -3);
        refused("cold TO below FROM", x, () -> x.sets(2, 1, 19), -3);
        refused("no stream", x, () -> x.sets(4, 0, 100), -1);
        refused("stream -1", x, () -> x.sets(-1, 0, 100), -1);
        refused("what 3", x, () -> x.sets(0, 3, 10), -1);
        refused("what -1", x, () -> x.sets(0, -1, 10), -1);
        refused("FROM 501", x, () -> x.sets(0, 0, 501), -1);
        refused("TO -1: NONE ahead of -3", x, () -> x.sets(2, 1, -1), -1);
        refused("CAPACITY 0", x, () -> x.sets(0, 2, 0), -1);
        refused("CAPACITY 21", x, () -> x.sets(0, 2, 21), -1);
        refused("least", x, () -> x.sets(LEAST, LEAST, LEAST), -1);
        is("FROM", x.sets(0, 0, 500), 170);
        is("FROM then", x.stream(0, 1), 500);
        is("matches above go", x.count(3), 0);
        is("matches below go", x.count(4), 0);
        is("TO", x.sets(0, 1, 0), 60);
        is("TO then", x.stream(0, 2), 0);
        is("CAPACITY", x.sets(0, 2, 20), 6);
        is("heat then", x.stream(0, 4), 10000);
        is("CAPACITY 1", x.sets(0, 2, 1), 20);
        is("FROM 0 of a cold one", x.sets(2, 0, 0), 20);
        is("TO 500 of a cold one", x.sets(2, 1, 500), 135);
        is("cold FROM", x.sets(3, 0, 139), 80);
        is("cold heat then", x.stream(3, 4), 8);
    }

    private static void gap() {
        HeatPinch x = plant(FOUR);
        x.ticks(0);
        x.ticks(1);
        refused("so", x, () -> x.gap(10), -2);
        refused("61", x, () -> x.gap(61), -1);
        refused("-1", x, () -> x.gap(-1), -1);
        is("60", x.gap(60), 10);
        is("matches above go", x.count(3), 0);
        is("matches below go", x.count(4), 0);
        is("0", x.gap(0), 60);
        is("GAP", x.count(2), 0);
        is("FUEL", x.fuel(), 0);
        is("10", x.gap(10), 0);
        is("FUEL", x.fuel(), 40);
    }

    private static void splits() {
        HeatPinch x = plant(FOUR);
        x.ticks(0);
        x.ticks(1);
        refused("no stream", x, () -> x.splits(4, 1), -1);
        refused("stream -1", x, () -> x.splits(-1, 1), -1);
        refused("v 0", x, () -> x.splits(0, 0), -1);
        refused("v as CAPACITY", x, () -> x.splits(0, 6), -1);
        refused("v greatest", x, () -> x.splits(0, GREATEST), -1);
        refused("v least", x, () -> x.splits(0, LEAST), -1);
        is("splits", x.splits(2, 1), 4);
        is("matches above go", x.count(3), 0);
        is("matches below go", x.count(4), 0);
        is("CAPACITY of the first", x.stream(2, 3), 3);
        is("CAPACITY of the second", x.stream(4, 3), 1);
        is("kind", x.stream(4, 0), 0);
        is("FROM", x.stream(4, 1), 20);
        is("TO", x.stream(4, 2), 135);
        is("FUEL stays", x.fuel(), 40);
        is("splits hot", x.splits(0, 5), 5);
        is("HOT ones", x.count(1), 0b100011);
        refused("CAPACITY 1 can't be split", x, () -> x.splits(0, 1), -1);
        x.splits(3, 1);
        x.splits(3, 1);
        x.splits(3, 1);
        is("the tenth", x.splits(3, 1), 9);
        refused("ten", x, () -> x.splits(3, 1), -2);
        refused("ten, but NONE ahead", x, () -> x.splits(3, 4), -1);
    }

    private static void drops() {
        HeatPinch x = plant(FOUR);
        x.ticks(0);
        x.ticks(1);
        refused("no stream", x, () -> x.drops(4), -1);
        refused("stream -1", x, () -> x.drops(-1), -1);
        is("drops", x.drops(1), 3);
        is("matches above go", x.count(3), 0);
        is("matches below go", x.count(4), 0);
        is("HOT ones", x.count(1), 1);
        is("FROM of the next", x.stream(1, 1), 20);
        is("TO of the next", x.stream(1, 2), 135);
        is("CAPACITY of the next", x.stream(1, 3), 4);
        is("FROM of the last", x.stream(2, 1), 80);
        is("FUEL", x.fuel(), 280);
        is("drops", x.drops(2), 2);
        is("drops", x.drops(0), 1);
        is("kind", x.stream(0, 0), 0);
        is("drops", x.drops(0), 0);
        refused("drops of none", x, () -> x.drops(0), -1);
        is("FUEL without streams", x.fuel(), 0);
    }

    private static void stream() {
        HeatPinch x = plant("h500-0*20,c3-5*7");
        int[] hot = {1, 500, 0, 20, 10000};
        int[] cold = {0, 3, 5, 7, 14};
        for (int w = 0; w < 5; w++) {
            is("hot " + w, x.stream(0, w), hot[w]);
            is("cold " + w, x.stream(1, w), cold[w]);
        }
        x.fuel();
        fails("what 5", () -> x.stream(0, 5));
        fails("what -1", () -> x.stream(0, -1));
        fails("stream 2", () -> x.stream(2, 0));
        fails("stream -1", () -> x.stream(-1, 0));
        fails("stream least", () -> x.stream(LEAST, 0));
        is("the row stays", x.count(7), 2);
    }

    private static void border() {
        HeatPinch x = plant(FOUR);
        is("border 0", x.border(0), 160);
        rowIs("border 0", x, 40, 120, 6, 0);
        is("border 1", x.border(1), 140);
        // 150 less 10 is 140 as well: one border; both hot streams and one cold one behind it.
        rowIs("border 1", x, 160, 5, 9, 8);
        is("border 2", x.border(2), 135);
        rowIs("border 2", x, 165, -165, 9, 12);
        is("border 3", x.border(3), 80);
        rowIs("border 3", x, 0, 150, 9, 4);
        is("border 4", x.border(4), 50);
        rowIs("border 4", x, 150, -30, 3, 4);
        is("border 5", x.border(5), 20);
        rowIs("border 5", x, 120, 0, 0, 0);
        fails("border 6", () -> x.border(6));
        fails("border -1", () -> x.border(-1));
        fails("border least", () -> x.border(LEAST));
        rowIs("the row stays", x, 120, 0, 0, 0);
        HeatPinch y = plant(60, "h9-0*2,c100-101*1");
        is("border below 0", y.border(2), -51);
        rowIs("border below 0", y, 0, 18, 2, 0);
        is("last border", y.border(3), -60);
        rowIs("last border", y, 18, 0, 0, 0);
        is("a shelf without streams", y.border(1), 100);
        rowIs("a shelf without streams", y, 0, 0, 0, 0);
    }

    private static void fuel() {
        HeatPinch x = plant(FOUR);
        is("fuel", x.fuel(), 40);
        rowIs("fuel", x, 120, 6);
        HeatPinch none = new HeatPinch();
        is("fuel of none", none.fuel(), 0);
        rowIs("fuel of none", none, 0, 0);
        HeatPinch hot = plant("h500-0*20");
        is("fuel of a hot one", hot.fuel(), 0);
        rowIs("fuel of a hot one", hot, 10000, 2);
        HeatPinch cold = plant("c0-500*20");
        is("fuel of a cold one", cold.fuel(), 10000);
        rowIs("fuel of a cold one", cold, 0, 2);
        HeatPinch late = plant(0, "c100-110*2,h90-80*9,c50-60*3");
        is("fuel", late.fuel(), 20);
        rowIs("fuel", late, 60, 6);
    }

    private static void pinch() {
        HeatPinch x = plant(FOUR);
        x.fuel();
        is("pinch", x.pinch(), 1080);
        rowIs("pinch", x, 1080);
        HeatPinch none = new HeatPinch();
        none.fuel();
        refused("pinch of none", none, none::pinch, -2);
        HeatPinch level = plant(0, "h100-50*2,c50-100*2");
        is("two noughts", level.pinch(), 1100);
        rowIs("two noughts", level, 1100, 1050);
        HeatPinch cold = plant("c0-500*20");
        is("pinch of a cold one", cold.pinch(), 1000);
        rowIs("pinch of a cold one", cold, 1000);
        HeatPinch hot = plant(60, "h50-0*1");
        is("pinch below 0", hot.pinch(), 990);
        rowIs("pinch below 0", hot, 990);
        HeatPinch late = plant(0, "c100-110*2,h90-80*9,c50-60*3");
        is("a shelf where nothing is handed on", late.pinch(), 1100);
        rowIs("a shelf where nothing is handed on", late, 1100, 1090);
    }

    private static void carry() {
        HeatPinch x = plant(FOUR);
        int[][] due = {{160, 40}, {159, 46}, {140, 160}, {100, 60}, {81, 3}, {80, 0}, {79, 5}, {50, 150}, {20, 120}};
        for (int[] d : due) {
            is("carry(" + d[0] + ")", x.carry(d[0]), 0);
            rowIs("carry(" + d[0] + ")", x, d[1]);
        }
        refused("above border 0", x, () -> x.carry(161), -2);
        refused("500", x, () -> x.carry(500), -2);
        refused("below the last", x, () -> x.carry(19), -2);
        refused("-60", x, () -> x.carry(-60), -2);
        refused("501", x, () -> x.carry(501), -1);
        refused("-61", x, () -> x.carry(-61), -1);
        HeatPinch none = new HeatPinch();
        refused("carry of none", none, () -> none.carry(0), -2);
        HeatPinch y = plant(60, "h9-0*2");
        is("carry(-60)", y.carry(-60), 0);
        rowIs("carry(-60)", y, 18);
        is("carry(-55)", y.carry(-55), 0);
        rowIs("carry(-55)", y, 8);
        HeatPinch z = plant("c400-500*1");
        is("carry(500)", z.carry(500), 0);
        rowIs("carry(500)", z, 100);
    }

    private static void above() {
        HeatPinch x = plant(FOUR);
        is("hot 100", x.above(true, 100), 570);
        rowIs("hot 100", x, 2);
        is("hot 150 (one begins)", x.above(true, 150), 120);
        rowIs("hot 150 (one begins)", x, 2);
        is("hot 151", x.above(true, 151), 114);
        rowIs("hot 151", x, 1);
        is("hot 60 (one ends)", x.above(true, 60), 930);
        rowIs("hot 60 (one ends)", x, 2);
        is("hot 0", x.above(true, 0), 1020);
        rowIs("hot 0", x, 0);
        is("hot 500", x.above(true, 500), 0);
        rowIs("hot 500", x, 0);
        is("cold 135", x.above(false, 135), 40);
        rowIs("cold 135", x, 2);
        is("cold 20", x.above(false, 20), 940);
        rowIs("cold 20", x, 1);
        refused("501", x, () -> x.above(true, 501), -1);
        refused("-1", x, () -> x.above(false, -1), -1);
        HeatPinch none = new HeatPinch();
        is("above of none", none.above(false, 7), 0);
        rowIs("above of none", none, 0);
    }

    private static void level() {
        HeatPinch x = plant(FOUR);
        int[][] hot = {{1, 1019, 6}, {6, 169, 1}, {120, 150, 1}, {124, 1346, 9}, {930, 60, 1}, {1019, 91, 3}, {1020, 30, 1}};
        for (int[] d : hot) {
            is("hot " + d[0], x.level(true, d[0]), 0);
            rowIs("hot " + d[0], x, d[1], d[2]);
        }
        is("cold 1", x.level(false, 1), 0);
        rowIs("cold 1", x, 1119, 8);
        is("cold 50", x.level(false, 50), 0);
        rowIs("cold 50", x, 805, 6);
        is("cold 940", x.level(false, 940), 0);
        rowIs("cold 940", x, 20, 1);
        refused("too much", x, () -> x.level(true, 1021), -2);
        refused("too much cold", x, () -> x.level(false, 941), -2);
        refused("greatest", x, () -> x.level(false, GREATEST), -2);
        refused("0", x, () -> x.level(true, 0), -1);
        refused("least", x, () -> x.level(true, LEAST), -1);
        HeatPinch top = plant("h500-490*2,h400-0*1");
        is("from 500", top.level(true, 1), 0);
        rowIs("from 500", top, 999, 2);
        HeatPinch apart = plant("h100-90*2,h50-0*3,c1-2*1");
        is("the greatest such", apart.level(true, 20), 0);
        rowIs("the greatest such", apart, 90, 1);
        is("behind a hole", apart.level(true, 21), 0);
        rowIs("behind a hole", apart, 149, 3);
        is("down to 0", apart.level(true, 170), 0);
        rowIs("down to 0", apart, 0, 1);
        HeatPinch none = new HeatPinch();
        refused("level of none", none, () -> none.level(false, 1), -2);
    }

    private static void by() {
        HeatPinch x = plant(FOUR);
        is("by(10)", x.by(10), 40);
        rowIs("by(10)", x, 120, 1080);
        is("by(0)", x.by(0), 0);
        rowIs("by(0)", x, 80, 1170);
        is("by(9)", x.by(9), 31);
        rowIs("by(9)", x, 111, 1080);
        is("by(20)", x.by(20), 130);
        rowIs("by(20)", x, 210, 1080);
        is("GAP stays", x.count(2), 10);
        is("FUEL stays", x.fuel(), 40);
        refused("61", x, () -> x.by(61), -1);
        refused("-1", x, () -> x.by(-1), -1);
        HeatPinch none = new HeatPinch();
        refused("by of none", none, () -> none.by(60), -2);
        refused("by of none, NONE ahead", none, () -> none.by(61), -1);
        HeatPinch y = plant("h9-0*2");
        is("by(60)", y.by(60), 0);
        rowIs("by(60)", y, 18, 949);
    }

    private static void widest() {
        HeatPinch x = plant(FOUR);
        is("39", x.widest(39), 9);
        rowIs("39", x, 31);
        is("40", x.widest(40), 10);
        rowIs("40", x, 40);
        is("0", x.widest(0), 5);
        rowIs("0", x, 0);
        is("greatest", x.widest(GREATEST), 60);
        rowIs("greatest", x, 490);
        is("GAP stays", x.count(2), 10);
        refused("-1", x, () -> x.widest(-1), -1);
        HeatPinch cold = plant("c0-10*3");
        refused("none", cold, () -> cold.widest(29), -2);
        is("30", cold.widest(30), 60);
        rowIs("30", cold, 30);
        HeatPinch level = plant("h100-50*2,c50-100*2");
        is("GAP 0 alone", level.widest(1), 0);
        rowIs("GAP 0 alone", level, 0);
        HeatPinch none = new HeatPinch();
        is("widest of none", none.widest(0), 60);
        rowIs("widest of none", none, 0);
    }

    private static void were() {
        HeatPinch x = plant(FOUR);
        x.ticks(0);
        is("CAPACITY", x.were(0, 2, 5), 120);
        rowIs("CAPACITY", x, 90, 80);
        is("as it is", x.were(0, 2, 6), 40);
        rowIs("as it is", x, 120, 0);
        is("cold TO", x.were(3, 1, 135), 0);
        rowIs("cold TO", x, 120, -40);
        is("hot FROM", x.were(0, 0, 160), 100);
        rowIs("hot FROM", x, 120, 60);
        is("matches stay", x.count(3), 2);
        is("FUEL stays", x.fuel(), 40);
        refused("FROM as TO", x, () -> x.were(0, 0, 60), -3);
        refused("cold TO below FROM", x, () -> x.were(2, 1, 0), -3);
        refused("what 3", x, () -> x.were(0, 3, 1), -1);
        refused("CAPACITY 21", x, () -> x.were(0, 2, 21), -1);
        refused("CAPACITY 0", x, () -> x.were(0, 2, 0), -1);
        refused("TO -1", x, () -> x.were(0, 1, -1), -1);
        refused("FROM 501", x, () -> x.were(0, 0, 501), -1);
        refused("stream 4", x, () -> x.were(4, 0, 100), -1);
        refused("stream -1", x, () -> x.were(-1, 0, 100), -1);
    }

    private static void without() {
        HeatPinch x = plant(FOUR);
        x.ticks(0);
        is("hot", x.without(1), 280);
        rowIs("hot", x, 0, 240);
        is("cold", x.without(2), 0);
        rowIs("cold", x, 540, -40);
        is("matches stay", x.count(3), 2);
        is("streams stay", x.count(0), 4);
        is("FUEL stays", x.fuel(), 40);
        refused("stream 4", x, () -> x.without(4), -1);
        refused("stream -1", x, () -> x.without(-1), -1);
        HeatPinch one = plant("c0-10*3");
        is("the only one", one.without(0), 0);
        rowIs("the only one", one, 0, -30);
    }

    private static void dearest() {
        HeatPinch x = plant(FOUR);
        x.fuel();
        is("dearest", x.dearest(), 2);
        rowIs("dearest", x, 0);
        is("FUEL stays", x.fuel(), 40);
        HeatPinch none = new HeatPinch();
        refused("dearest of none", none, none::dearest, -2);
        HeatPinch equal = plant("c0-10*3,c0-10*4,c20-30*4");
        is("of equal ones the first", equal.dearest(), 1);
        rowIs("of equal ones the first", equal, 70);
        HeatPinch hot = plant("h10-0*3");
        is("the only one", hot.dearest(), 0);
        rowIs("the only one", hot, 0);
    }

    private static void arrive() {
        HeatPinch x = plant(FOUR);
        is("above", x.arrive(0), 2);
        rowIs("above", x, 2, 1, 1);
        is("below", x.arrive(1), 2);
        rowIs("below", x, 1, 1, 1);
        refused("side 2", x, () -> x.arrive(2), -1);
        refused("side -1", x, () -> x.arrive(-1), -1);
        x.sets(2, 0, 60);
        x.sets(2, 2, 7);
        is("the pinch stays", x.pinch(), 1080);
        is("below, too great a cold one", x.arrive(1), 2);
        rowIs("below, too great a cold one", x, 1, 1, 0);
        HeatPinch many = plant(0, "h200-100*3,h200-100*3,c100-200*9,h100-50*5,c50-100*4");
        is("the pinch", many.pinch(), 1100);
        is("more hot ones above", many.arrive(0), 2);
        rowIs("more hot ones above", many, 1, 0, 0);
        is("one of each below", many.arrive(1), 1);
        rowIs("one of each below", many, 1, 1, 1);
        HeatPinch twice = plant(0, "h200-100*5,h200-100*5,c100-200*8,c100-200*4");
        is("the pinch", twice.pinch(), 1100);
        is("each for itself", twice.arrive(0), 2);
        rowIs("each for itself", twice, 2, 1, 0);
        is("nothing below", twice.arrive(1), 0);
        rowIs("nothing below", twice, 0, 1, 1);
        twice.sets(2, 2, 7);
        twice.sets(3, 2, 5);
        is("as great is enough", twice.arrive(0), 2);
        rowIs("as great is enough", twice, 2, 1, 1);
        HeatPinch great = plant(0, "h200-100*20,c100-200*19,c100-200*2");
        is("19 is not enough for 20", great.arrive(0), 1);
        rowIs("19 is not enough for 20", great, 2, 1, 0);
        great.sets(1, 2, 20);
        is("20 is enough for 20", great.arrive(0), 1);
        rowIs("20 is enough for 20", great, 2, 1, 1);
        HeatPinch small = plant(0, "h200-100*1,h200-100*1,c100-200*3");
        is("two small ones for one", small.arrive(0), 2);
        rowIs("two small ones for one", small, 1, 0, 0);
        HeatPinch far = plant(0, "h200-100*5,c100-200*7,c150-160*9");
        is("one that is not near", far.arrive(0), 1);
        rowIs("one that is not near", far, 1, 1, 1);
        HeatPinch colds = plant(0, "c0-100*2,c0-100*2,h100-50*9,c100-150*1");
        is("the pinch", colds.pinch(), 1100);
        is("more cold ones below", colds.arrive(1), 1);
        rowIs("more cold ones below", colds, 2, 0, 0);
        HeatPinch none = new HeatPinch();
        is("arrive of none", none.arrive(1), 0);
        rowIs("arrive of none", none, 0, 1, 1);
    }

    private static void range() {
        HeatPinch x = plant(FOUR);
        int[][] due = {
            {0, 0, 1, 90, 170, 480}, {0, 1, 1, 90, 150, 180}, {0, 2, 1, 80, 135, 220}, {0, 3, 1, 80, 140, 480},
            {1, 0, 1, 90, 60, 180}, {1, 1, 1, 90, 30, 180}, {1, 2, 1, 80, 20, 240}, {1, 3, 0, 0, 0, 0},
        };
        for (int[] d : due) {
            is("range " + d[0] + " " + d[1], x.range(d[0], d[1]), d[2]);
            rowIs("range " + d[0] + " " + d[1], x, d[3], d[4], d[5], d[5]);
        }
        x.joins(0, 1, 3, 100);
        x.range(0, 1);
        rowIs("REST", x, 90, 150, 180, 80);
        x.range(1, 1);
        rowIs("REST of the other side", x, 90, 30, 180, 180);
        refused("side 2", x, () -> x.range(2, 0), -1);
        refused("side -1", x, () -> x.range(-1, 0), -1);
        refused("stream 4", x, () -> x.range(0, 4), -1);
        refused("stream -1", x, () -> x.range(0, -1), -1);
        HeatPinch far = plant(0, "h200-100*5,c100-200*7,c150-160*9,h50-40*1");
        is("NEAR away from the pinch", far.range(0, 2), 1);
        rowIs("NEAR away from the pinch", far, 150, 160, 90, 90);
        is("NEAR below", far.range(1, 3), 1);
        rowIs("NEAR below", far, 50, 40, 10, 10);
    }

    private static void joins() {
        HeatPinch x = plant(FOUR);
        refused("side 2", x, () -> x.joins(2, 0, 2, 1), -1);
        refused("side -1", x, () -> x.joins(-1, 0, 2, 1), -1);
        refused("hot 4", x, () -> x.joins(0, 4, 2, 1), -1);
        refused("hot -1", x, () -> x.joins(0, -1, 2, 1), -1);
        refused("hot is cold", x, () -> x.joins(0, 2, 3, 1), -1);
        refused("cold is hot", x, () -> x.joins(0, 0, 1, 1), -1);
        refused("cold 4", x, () -> x.joins(0, 0, 4, 1), -1);
        refused("no heat there", x, () -> x.joins(1, 0, 3, 1), -1);
        refused("LOAD 0", x, () -> x.joins(0, 0, 3, 0), -1);
        refused("LOAD least", x, () -> x.joins(0, 0, 3, LEAST), -1);
        refused("LOAD greatest", x, () -> x.joins(0, 0, 3, GREATEST), -3);
        refused("more than a REST of the hot one", x, () -> x.joins(0, 1, 3, 181), -3);
        refused("more than a REST of the cold one", x, () -> x.joins(0, 0, 2, 221), -3);
        refused("too narrow at its end", x, () -> x.joins(0, 0, 2, 1), -5);
        is("joins", x.joins(0, 1, 3, 80), 0);
        rowIs("joins", x, 100, 400);
        // The cold one is at 80 + 80 / 8 = 90 now, the hot one still at 90.
        refused("too narrow at its begin", x, () -> x.joins(0, 0, 3, 1), -4);
        is("by 480 and 400, -3 ahead of -4", x.joins(0, 0, 3, 401), -3);
        is("joins below", x.joins(1, 0, 2, 180), 0);
        rowIs("joins below", x, 0, 60);
        refused("no REST", x, () -> x.joins(1, 0, 2, 1), -3);
        HeatPinch fine = plant("h100-0*6,c0-50*3,c90-300*1");
        is("the pinch", fine.pinch(), 1090);
        // Below: hot from 100 (6 a degree), cold from 50 (3): the width is 50 + x / 3 - x / 6.
        is("joins", fine.joins(1, 0, 1, 150), 0);
        HeatPinch edge = plant(10, "h100-0*3,c0-90*4,c90-300*1,h100-0*5");
        is("the pinch", edge.pinch(), 1090);
        refused("a fraction of a degree too narrow", edge, () -> edge.joins(1, 0, 1, 1), -5);
        HeatPinch just = plant(10, "h101-1*3,c0-90*4,c91-300*1,h101-1*5");
        is("the pinch", just.pinch(), 1091);
        // Width at the begin 11: 11 - x / 3 + x / 4 is 10 at x = 12.
        refused("13", just, () -> just.joins(1, 0, 1, 13), -5);
        is("12", just.joins(1, 0, 1, 12), 0);
        HeatPinch full = square();
        for (int k = 0; k < 24; k++) {
            is("match " + k, full.joins(1, k & 1, 2 + (k >> 1 & 1), 1), k);
        }
        refused("24", full, () -> full.joins(1, 0, 2, 1), -2);
        refused("24, ahead of -3", full, () -> full.joins(1, 0, 2, 1000), -2);
        refused("24, behind NONE", full, () -> full.joins(1, 0, 2, 0), -1);
    }

    private static void most() {
        HeatPinch x = plant(FOUR);
        is("0 3", x.most(0, 0, 3), 480);
        is("0 2", x.most(0, 0, 2), 0);
        is("1 2", x.most(0, 1, 2), 180);
        is("1 3", x.most(0, 1, 3), 180);
        is("below 0 2", x.most(1, 0, 2), 180);
        is("below 1 2", x.most(1, 1, 2), 0);
        refused("side 2", x, () -> x.most(2, 0, 2), -1);
        refused("hot is cold", x, () -> x.most(0, 2, 2), -1);
        refused("cold is hot", x, () -> x.most(0, 0, 0), -1);
        refused("no heat there", x, () -> x.most(1, 0, 3), -1);
        refused("hot 4", x, () -> x.most(0, 4, 2), -1);
        refused("cold -1", x, () -> x.most(0, 0, -1), -1);
        x.joins(0, 1, 3, 80);
        is("too narrow at the begin", x.most(0, 0, 3), 0);
        is("what is left", x.most(0, 1, 3), 100);
        HeatPinch just = plant(10, "h101-1*3,c0-90*4,c91-300*1,h101-1*5");
        is("by the end", just.most(1, 0, 1), 12);
        just.gap(9);
        is("the pinch", just.pinch(), 1092);
        HeatPinch full = square();
        for (int k = 0; k < 24; k++) {
            full.joins(1, 0, 2, 1);
        }
        is("with 24", full.most(1, 0, 2), 136);
        is("with 24", full.most(1, 1, 3), 160);
    }

    private static void ticks() {
        HeatPinch x = plant(FOUR);
        is("above", x.ticks(0), 2);
        rowIs("above", x, 0, 40);
        is("below", x.ticks(1), 2);
        rowIs("below", x, 120, 0);
        same("matches", matches(x), "0:0+3*480 0:1+2*180 1:0+2*180 1:1+2*60");
        is("once more", x.ticks(1), 0);
        rowIs("once more", x, 120, 0);
        refused("side 2", x, () -> x.ticks(2), -1);
        refused("side -1", x, () -> x.ticks(-1), -1);
        HeatPinch equal = square();
        is("equal ones", equal.ticks(1), 2);
        rowIs("equal ones", equal, 80, 0);
        same("equal ones", matches(equal), "1:0+2*160 1:1+3*160");
        HeatPinch full = square();
        for (int k = 0; k < 23; k++) {
            full.joins(1, 0, 2, 1);
        }
        is("one place", full.ticks(1), 1);
        rowIs("one place", full, 217, 137);
        is("the greatest", full.match(1, 23, 2), 160);
        is("of equal ones the least hot one", full.match(1, 23, 0), 0);
        is("the cold one of the greatest", full.match(1, 23, 1), 3);
        is("no place", full.ticks(1), 0);
        rowIs("no place", full, 217, 137);
    }

    private static void match() {
        HeatPinch x = plant(FOUR);
        x.ticks(0);
        x.ticks(1);
        is("HOT", x.match(0, 1, 0), 1);
        rowIs("widths", x, 10, 1, 25, 1);
        is("COLD", x.match(0, 0, 1), 3);
        rowIs("widths", x, 10, 1, 30, 1);
        is("LOAD", x.match(1, 0, 2), 180);
        rowIs("widths", x, 10, 1, 25, 1);
        is("LOAD", x.match(1, 1, 2), 60);
        rowIs("widths", x, 55, 1, 50, 1);
        fails("what 3", () -> x.match(0, 0, 3));
        fails("what -1", () -> x.match(0, 0, -1));
        fails("match 2", () -> x.match(0, 2, 0));
        fails("match -1", () -> x.match(0, -1, 0));
        fails("side 2", () -> x.match(2, 0, 0));
        fails("side -1", () -> x.match(-1, 0, 0));
        rowIs("the row stays", x, 55, 1, 50, 1);
        HeatPinch y = plant(FOUR);
        y.joins(0, 1, 3, 5);
        y.joins(0, 1, 2, 7);
        y.match(0, 0, 0);
        // 10 + 5 / 3 - 5 / 8
        rowIs("fractions", y, 10, 1, 265, 24);
        y.match(0, 1, 0);
        // 10 + 5 / 3, then 10 + 12 / 3 - 7 / 4
        rowIs("fractions", y, 35, 3, 49, 4);
        HeatPinch z = plant(0, "h100-50*4,c50-100*4");
        z.joins(1, 0, 1, 200);
        z.match(1, 0, 2);
        rowIs("widths of 0", z, 0, 1, 0, 1);
    }

    private static void area() {
        HeatPinch x = plant(FOUR);
        x.ticks(0);
        x.ticks(1);
        is("480 by 40", x.area(0, 0), 24);
        is("180 by 35", x.area(0, 1), 11);
        is("60 by 105", x.area(1, 1), 2);
        refused("match 2", x, () -> x.area(0, 2), -1);
        refused("match -1", x, () -> x.area(0, -1), -1);
        refused("side 2", x, () -> x.area(2, 0), -1);
        refused("side -1", x, () -> x.area(-1, 0), -1);
        HeatPinch z = plant(0, "h100-50*4,c50-100*4");
        z.joins(1, 0, 1, 200);
        refused("both are 0", z, () -> z.area(1, 0), -2);
        HeatPinch wide = plant(0, "h500-0*20,c1-500*20");
        is("joins", wide.joins(1, 0, 1, 9980), 0);
        refused("both are 0", wide, () -> wide.area(1, 0), -2);
        HeatPinch slim = plant(0, "h500-0*20,c0-500*19,c0-1*1");
        is("below hot falls slower", slim.joins(1, 0, 1, 1), 0);
        // The width is 0 at the begin, 1 / 19 - 1 / 20 at the end.
        is("a great area", slim.area(1, 0), 760);
    }

    private static void total() {
        HeatPinch x = plant(FOUR);
        is("total of none", x.total(), 0);
        rowIs("total of none", x, 0, -1);
        x.ticks(1);
        is("below alone", x.total(), 13);
        rowIs("below alone", x, 0, 100);
        x.ticks(0);
        is("total", x.total(), 48);
        rowIs("total", x, 0, 0);
        HeatPinch z = plant(0, "h100-50*4,c50-100*4,h40-30*4,c0-10*4");
        z.joins(1, 0, 1, 100);
        is("one that has none", z.total(), 0);
        rowIs("one that has none", z, 1, -1);
        z.joins(1, 2, 3, 20);
        // Widths 30 and 30.
        is("one that has, one that has none", z.total(), 1);
        rowIs("one that has, one that has none", z, 1, 101);
        z.joins(1, 2, 3, 20);
        is("of equal ones the first", z.total(), 2);
        rowIs("of equal ones the first", z, 1, 101);
    }

    private static void leaves() {
        HeatPinch x = plant(FOUR);
        x.ticks(0);
        x.ticks(1);
        refused("match 2", x, () -> x.leaves(0, 2), -1);
        refused("match -1", x, () -> x.leaves(0, -1), -1);
        refused("side 2", x, () -> x.leaves(2, 0), -1);
        refused("side -1", x, () -> x.leaves(-1, 0), -1);
        x.fuel();
        // Without the first one the second one would begin at the pinch: 10 - 60 / 3 + 60 / 4.
        is("the other would not keep", x.leaves(1, 0), -4);
        rowIs("by the number that it would have", x, 0);
        same("matches stay", matches(x), "0:0+3*480 0:1+2*180 1:0+2*180 1:1+2*60");
        x.fuel();
        is("leaves", x.leaves(1, 1), 1);
        rowIs("the row stays", x, 120, 6);
        is("leaves", x.leaves(0, 0), 1);
        same("matches", matches(x), "0:1+2*180 1:0+2*180");
        is("leaves", x.leaves(0, 0), 0);
        x.range(0, 2);
        rowIs("REST", x, 80, 135, 220, 220);
        HeatPinch y = square();
        y.joins(1, 0, 2, 10);
        y.joins(1, 0, 3, 20);
        y.joins(1, 0, 2, 30);
        is("leaves", y.leaves(1, 0), 2);
        same("matches", matches(y), "1:0+3*20 1:0+2*30");
        y.match(1, 1, 0);
        // The hot one is at 100 - 5 there, the cold one at 40.
        rowIs("it lies nearer", y, 55, 1, 55, 1);
    }

    private static void loads() {
        HeatPinch x = plant(FOUR);
        x.ticks(0);
        x.ticks(1);
        refused("match 2", x, () -> x.loads(0, 2, 5), -1);
        refused("match -1", x, () -> x.loads(0, -1, 5), -1);
        refused("side 2", x, () -> x.loads(2, 0, 5), -1);
        refused("v 0", x, () -> x.loads(0, 0, 0), -1);
        refused("v least", x, () -> x.loads(0, 0, LEAST), -1);
        refused("so", x, () -> x.loads(0, 0, 480), -2);
        refused("more than a REST and its own", x, () -> x.loads(0, 0, 481), -3);
        refused("more than a REST of the hot one", x, () -> x.loads(0, 1, 181), -3);
        refused("more than a REST of the cold one", x, () -> x.loads(1, 1, 61), -3);
        refused("greatest", x, () -> x.loads(0, 0, GREATEST), -3);
        x.fuel();
        // By 59 the second one would end at 10 + 59 / 4 - (20 - 15).
        is("19", x.loads(1, 0, 19), -4);
        rowIs("the first that would not keep", x, 1);
        same("matches stay", matches(x), "0:0+3*480 0:1+2*180 1:0+2*180 1:1+2*60");
        x.fuel();
        // 10 + v / 4 - 5 is 10 at v = 20.
        is("20", x.loads(1, 0, 20), 180);
        rowIs("the row stays", x, 120, 6);
        x.match(1, 1, 0);
        rowIs("it lies nearer", x, 15, 1, 10, 1);
        is("its REST", x.range(1, 0), 1);
        rowIs("its REST", x, 90, 60, 180, 160);
        is("back", x.loads(1, 0, 180), 20);
        HeatPinch just = plant(10, "h101-1*3,c0-90*4,c91-300*1,h101-1*5");
        just.joins(1, 0, 1, 12);
        is("itself would not keep", just.loads(1, 0, 13), -4);
        rowIs("itself would not keep", just, 0);
        is("1", just.loads(1, 0, 1), 12);
    }

    private static void clears() {
        HeatPinch x = plant(FOUR);
        x.ticks(0);
        x.ticks(1);
        refused("side 2", x, () -> x.clears(2), -1);
        refused("side -1", x, () -> x.clears(-1), -1);
        is("clears", x.clears(0), 2);
        same("matches", matches(x), "1:0+2*180 1:1+2*60");
        x.range(0, 0);
        rowIs("REST", x, 90, 170, 480, 480);
        is("clears of none", x.clears(0), 0);
        is("clears below", x.clears(1), 2);
        is("none", x.count(4), 0);
    }

    private static void left() {
        HeatPinch x = plant(FOUR);
        is("without matches", x.left(), 940);
        rowIs("without matches", x, 1020, 900);
        x.ticks(0);
        is("above done", x.left(), 280);
        rowIs("above done", x, 360, 240);
        x.ticks(1);
        is("all done", x.left(), 40);
        rowIs("all done", x, 120, 0);
        HeatPinch none = new HeatPinch();
        is("left of none", none.left(), 0);
        rowIs("left of none", none, 0, 0);
    }

    private static void loops() {
        HeatPinch x = square();
        is("none", x.loops(1), 0);
        rowIs("none", x, 0, 0, 0);
        x.joins(1, 0, 2, 10);
        x.joins(1, 1, 3, 10);
        is("two parts", x.loops(1), 0);
        rowIs("two parts", x, 2, 4, 2);
        x.joins(1, 0, 2, 10);
        is("the same two", x.loops(1), 1);
        rowIs("the same two", x, 3, 4, 2);
        x.joins(1, 0, 3, 10);
        is("one part", x.loops(1), 1);
        rowIs("one part", x, 4, 4, 1);
        x.joins(1, 1, 2, 10);
        is("two loops", x.loops(1), 2);
        rowIs("two loops", x, 5, 4, 1);
        is("the other side", x.loops(0), 0);
        rowIs("the other side", x, 0, 0, 0);
        refused("side 2", x, () -> x.loops(2), -1);
        refused("side -1", x, () -> x.loops(-1), -1);
    }

    private static void loop() {
        HeatPinch x = square();
        x.joins(1, 0, 2, 10);
        x.joins(1, 1, 2, 10);
        x.joins(1, 1, 3, 10);
        x.fuel();
        refused("none yet", x, () -> x.loop(1, 0), -2);
        refused("match 3", x, () -> x.loop(1, 3), -1);
        refused("match -1", x, () -> x.loop(1, -1), -1);
        refused("side 2", x, () -> x.loop(2, 0), -1);
        refused("side 0", x, () -> x.loop(0, 0), -1);
        x.joins(1, 0, 3, 10);
        is("four", x.loop(1, 0), 4);
        rowIs("the cold one first", x, 0, 1, 2, 3);
        is("four", x.loop(1, 2), 4);
        rowIs("the cold one first", x, 2, 3, 0, 1);
        x.joins(1, 1, 3, 5);
        is("the first of two", x.loop(1, 0), 4);
        rowIs("the first of two", x, 0, 1, 2, 3);
        is("the fewest", x.loop(1, 2), 2);
        rowIs("the fewest", x, 2, 4);
        is("the fewest", x.loop(1, 4), 2);
        rowIs("the fewest", x, 4, 2);
        HeatPinch six = plant(0, "h100-50*4,h100-50*4,h100-50*4,c0-40*4,c0-40*4,c0-40*4");
        int[][] ring = {{0, 3}, {1, 4}, {2, 5}, {2, 3}, {1, 5}, {0, 4}};
        for (int[] m : ring) {
            six.joins(1, m[0], m[1], 10);
        }
        is("six", six.loop(1, 0), 6);
        rowIs("six", six, 0, 3, 2, 4, 1, 5);
        is("six", six.loop(1, 4), 6);
        rowIs("six", six, 4, 2, 3, 0, 5, 1);
        six.joins(1, 0, 5, 10);
        is("fewer by another one", six.loop(1, 0), 4);
        rowIs("fewer by another one", six, 0, 3, 2, 6);
        HeatPinch ten = ringOfTen();
        is("ten", ten.loop(1, 9), 10);
        rowIs("ten", ten, 9, 0, 1, 2, 3, 4, 5, 6, 7, 8);
        is("ten", ten.loop(1, 0), 10);
        rowIs("ten", ten, 0, 9, 8, 7, 6, 5, 4, 3, 2, 1);
        is("breaks of ten", ten.breaks(1, 9), 5);
        same("breaks of ten", matches(ten), "1:0+5*20 1:1+6*20 1:2+7*20 1:3+8*20 1:4+9*20");
    }

    /** Hot stream k is joined to the cold ones 5 + k and 6 + k, the last one to 5 again. */
    private static HeatPinch ringOfTen() {
        HeatPinch x = plant(0, "h100-50*4,h100-50*4,h100-50*4,h100-50*4,h100-50*4,"
                + "c0-40*4,c0-40*4,c0-40*4,c0-40*4,c0-40*4");
        for (int k = 0; k < 10; k++) {
            is("match " + k, x.joins(1, k / 2, 5 + (k + 1) / 2 % 5, 10), k);
        }
        return x;
    }

    private static void breaks() {
        HeatPinch x = square();
        x.joins(1, 0, 2, 10);
        x.joins(1, 1, 2, 20);
        x.joins(1, 1, 3, 30);
        x.fuel();
        refused("no loop", x, () -> x.breaks(1, 0), -2);
        refused("match 3", x, () -> x.breaks(1, 3), -1);
        refused("match -1", x, () -> x.breaks(1, -1), -1);
        refused("side 2", x, () -> x.breaks(2, 0), -1);
        x.joins(1, 0, 3, 40);
        is("below 0", x.breaks(1, 3), -3);
        rowIs("the first such in the loop", x, 1);
        x.fuel();
        is("breaks", x.breaks(1, 0), 3);
        rowIs("the row stays", x, 80, 4);
        same("matches", matches(x), "1:1+2*30 1:1+3*20 1:0+3*50");
        HeatPinch y = square();
        y.joins(1, 0, 2, 10);
        y.joins(1, 1, 2, 20);
        y.joins(1, 1, 3, 10);
        y.joins(1, 0, 3, 40);
        is("one of 0 goes, too", y.breaks(1, 0), 2);
        same("matches", matches(y), "1:1+2*30 1:0+3*50");
        HeatPinch z = square();
        z.joins(1, 0, 2, 10);
        z.joins(1, 0, 2, 20);
        is("a loop of two", z.breaks(1, 1), 1);
        same("a loop of two", matches(z), "1:0+2*30");
        HeatPinch tight = plant(10, "h101-1*3,c0-90*4,c91-300*1,h101-1*5");
        tight.joins(1, 0, 1, 6);
        tight.joins(1, 0, 1, 6);
        is("still keeps", tight.breaks(1, 0), 1);
        narrowBreak();
    }

    private static void narrowBreak() {
        HeatPinch z = plant(0, "h100-0*4,h100-0*2,c0-100*4,c0-40*2");
        z.joins(1, 0, 2, 20);
        z.joins(1, 1, 2, 20);
        z.joins(1, 0, 3, 20);
        z.joins(1, 1, 3, 20);
        is("loop", z.loop(1, 0), 4);
        rowIs("loop", z, 0, 1, 3, 2);
        // Without the first one the second one begins at 100 on both: 2 and 4 a degree, too steep.
        is("some would not keep", z.breaks(1, 0), -4);
        rowIs("by the number that it would have", z, 0);
        same("matches stay", matches(z), "1:0+2*20 1:1+2*20 1:0+3*20 1:1+3*20");
    }

    private static void count() {
        HeatPinch x = plant(FOUR);
        x.ticks(0);
        x.ticks(1);
        x.leaves(1, 1);
        x.sign(0);
        int[] due = {4, 3, 10, 2, 1, 1020, 940, 2, 4};
        for (int w = 0; w < 9; w++) {
            is("count(" + w + ")", x.count(w), due[w]);
        }
        refused("9", x, () -> x.count(9), -1);
        refused("-1", x, () -> x.count(-1), -1);
        refused("least", x, () -> x.count(LEAST), -1);
        HeatPinch y = plant("c1-2*1,h9-8*1,c1-2*1,h9-8*2");
        is("HOT ones", y.count(1), 0b1010);
        is("heat", y.count(5), 3);
        is("cold heat", y.count(6), 2);
    }

    private static void row() {
        HeatPinch x = plant(FOUR);
        fails("row(0) of none", () -> x.row(0));
        x.range(0, 0);
        is("row(0)", x.row(0), 90);
        is("row(3)", x.row(3), 480);
        fails("row(4)", () -> x.row(4));
        fails("row(-1)", () -> x.row(-1));
        fails("row(least)", () -> x.row(LEAST));
        x.above(true, 0);
        is("a shorter row", x.count(7), 1);
        fails("row(1)", () -> x.row(1));
        HeatPinch many = plant(0, "h500-490*1,c490-500*1,h480-470*1,c470-480*1,h460-450*1,"
                + "c450-460*1,h440-430*1,c430-440*1,h420-410*1,c410-420*1");
        is("the pinch", many.pinch(), 1500);
        is("ten noughts", many.count(7), 10);
        is("the last one", many.row(9), 1410);
        HeatPinch most = plant("h500-490*1,h480-470*1,h460-450*1,h440-430*1,h420-410*1,"
                + "h401-391*1,h381-371*1,h361-351*1,h341-331*1,h321-311*1");
        is("borders", most.border(19), 301);
    }
}
