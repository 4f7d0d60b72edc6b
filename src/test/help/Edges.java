import java.io.IOException;
import java.lang.reflect.InvocationTargetException;
import java.lang.reflect.Method;
import java.nio.file.Files;
import java.nio.file.Path;
import java.util.Arrays;
import java.util.NoSuchElementException;
import java.util.TreeSet;
import java.util.function.Consumer;

/**
 * What the tests of edges share: the sentence of the document that is looked at, objects made anew
 * for each call, and what may have changed by the call.
 *
 * All that can be seen of an object is compared with a twin that was made in the same way without
 * the call, as most questions tell a ROW and so can't be asked ahead of the call.
 */
final class Edges {
    static final int LEAST = Integer.MIN_VALUE;
    static final int GREATEST = Integer.MAX_VALUE;
    /** Stands for a NoSuchElementException; no call of the class answers it. */
    static final long THREW = Long.MIN_VALUE;
    /** The example of the README: FUEL 40, COOL 120, PINCH 80 by a GAP of 10. */
    static final String FOUR = "h170-60*6,h150-30*3,c20-135*4,c80-140*8";

    private static final long ODD = Long.MIN_VALUE + 1;
    private static final Path DOCUMENT = Path.of("../shared/DOC.md");
    /** A text that waits in each object, to see that a call leaves it there. */
    private static final String WAITING = "c7-9*2";

    private static int wrong = 0;
    private static int looked = 0;
    private static String where = "";
    private static final TreeSet<String> parts = new TreeSet<>();

    interface Maker {
        HeatPinch make();
    }

    private Edges() {
    }

    // ---- the document

    /** The words have to stand in that part of the document, just so. */
    static void sentence(String part, String words) {
        where = part + " (" + words + ")";
        parts.add(part);
        if (!textOf(part).contains(words)) {
            fault("the document has no such words there");
        }
    }

    private static String textOf(String part) {
        try {
            for (String section : Files.readString(DOCUMENT).split("\n## ")) {
                if (section.startsWith(part + ":") || section.startsWith(part + "\n")) {
                    return section;
                }
            }
        } catch (IOException e) {
            fault("the document can't be read");
        }
        return "";
    }

    private static void fault(String what) {
        wrong++;
        System.out.println(where + ": " + what);
    }

    /** Ends the test: each of these promises has to have been looked at. */
    static void ends(int first, int last) {
        for (int p = first; p <= last; p++) {
            if (!parts.contains("Promise " + p)) {
                fault("promise " + p + " was not looked at");
            }
        }
        System.out.println(wrong == 0 ? looked + " calls at edges are as due" : wrong + " faults");
        if (wrong != 0) {
            System.exit(1);
        }
    }

    // ---- objects

    static void put(HeatPinch x, String text) {
        int before = x.count(8);
        for (int i = 0; i < text.length(); i += 4) {
            int v = 0;
            for (int k = i; k < i + 4; k++) {
                v = v << 8 | (k < text.length() ? text.charAt(k) : 0);
            }
            x.sign(v);
        }
        x.end(before + text.length());
    }

    /** A new object with that text, not yet read. */
    static Maker unread(String text) {
        return () -> {
            HeatPinch x = new HeatPinch();
            put(x, text);
            return x;
        };
    }

    /** An object of these streams, with a ROW of two numbers and a text that waits. */
    static Maker plant(int gap, String text) {
        return () -> {
            HeatPinch x = new HeatPinch();
            put(x, text);
            x.streams();
            x.gap(gap);
            x.left();
            put(x, WAITING);
            return x;
        };
    }

    static Maker plant(String text) {
        return plant(10, text);
    }

    static Maker then(Maker first, Consumer<HeatPinch> more) {
        return () -> {
            HeatPinch x = first.make();
            more.accept(x);
            return x;
        };
    }

    /** FOUR with the matches of ticks() on both sides: 0+3*480, 1+2*180; 0+2*180, 1+2*60. */
    static Maker joined() {
        return then(plant(FOUR), x -> {
            x.ticks(0);
            x.ticks(1);
            x.range(0, 0);
        });
    }

    // ---- what can be seen

    private static String rowOf(HeatPinch x) {
        StringBuilder s = new StringBuilder();
        int many = x.count(7);
        for (int i = 0; i < many; i++) {
            s.append(x.row(i)).append(' ');
        }
        return s.toString().trim();
    }

    private static void addStreams(StringBuilder s, HeatPinch x) {
        int many = x.count(0);
        for (int i = 0; i < many; i++) {
            s.append(i).append(':');
            for (int what = 0; what < 5; what++) {
                s.append(' ').append(x.stream(i, what));
            }
            s.append("; ");
        }
    }

    /** An answer, with the ROW that it told or left. */
    private static void add(StringBuilder s, HeatPinch x, String name, int... args) {
        s.append(name).append(Arrays.toString(args)).append(' ').append(call(x, name, args));
        s.append(" (").append(rowOf(x)).append("); ");
    }

    private static void addMatches(StringBuilder s, HeatPinch x, int side) {
        add(s, x, "loops", side);
        int many = x.count(3 + side);
        for (int i = 0; i < many; i++) {
            s.append(side).append(':').append(x.match(side, i, 0)).append('+').append(x.match(side, i, 1));
            s.append('*').append(x.match(side, i, 2)).append(" (").append(rowOf(x)).append(") ");
            s.append(x.area(side, i)).append(' ');
            add(s, x, "loop", side, i);
        }
        add(s, x, "loops", side);
    }

    private static void addShelves(StringBuilder s, HeatPinch x) {
        add(s, x, "pinch");
        add(s, x, "fuel");
        int borders = (int) x.row(1);
        for (int k = 0; k < borders; k++) {
            add(s, x, "border", k);
        }
        for (int hot = 0; hot < 2; hot++) {
            add(s, x, "above", hot, 100);
            add(s, x, "level", hot, 1);
            add(s, x, "level", hot, Math.max(1, x.count(6 - hot)));
        }
        add(s, x, "by", 20);
        add(s, x, "widest", x.fuel());
        add(s, x, "dearest");
    }

    private static void addSides(StringBuilder s, HeatPinch x, int side) {
        add(s, x, "arrive", side);
        int many = x.count(0);
        for (int i = 0; i < many; i++) {
            add(s, x, "range", side, i);
            for (int k = 0; k < many; k++) {
                s.append(x.most(side, i, k)).append(' ');
            }
        }
        add(s, x, "total");
        add(s, x, "left");
    }

    /** All that can be seen but the ROW, on several objects, as an object is good for 512 calls. */
    private static String restOf(Maker maker) {
        StringBuilder s = new StringBuilder();
        HeatPinch x = maker.make();
        for (int what : new int[] {0, 1, 2, 3, 4, 5, 6, 8}) {
            s.append(x.count(what)).append(' ');
        }
        addStreams(s, x);
        s.append("text ").append(x.streams()).append(' ');
        addStreams(s, x);
        // The first question tells another ROW, so that nothing of the one ahead is seen.
        for (int side = 0; side < 2; side++) {
            addMatches(s, maker.make(), side);
            addSides(s, maker.make(), side);
        }
        addShelves(s, then(maker, HeatPinch::left).make());
        return s.toString();
    }

    // ---- calls

    private static Method methodOf(String name) {
        for (Method m : HeatPinch.class.getMethods()) {
            if (m.getName().equals(name)) {
                return m;
            }
        }
        throw new IllegalArgumentException(name);
    }

    private static long call(HeatPinch x, String name, int... args) {
        Method m = methodOf(name);
        Object[] given = new Object[args.length];
        for (int i = 0; i < args.length; i++) {
            boolean yesNo = m.getParameterTypes()[i] == boolean.class;
            given[i] = yesNo ? (Object) (args[i] != 0) : (Object) args[i];
        }
        try {
            Object got = m.invoke(x, given);
            return got instanceof Boolean b ? (b ? 1 : 0) : ((Number) got).longValue();
        } catch (InvocationTargetException e) {
            if (e.getCause().getClass() == NoSuchElementException.class) {
                return THREW;
            }
            fault(name + Arrays.toString(args) + " threw " + e.getCause());
            return ODD;
        } catch (IllegalAccessException e) {
            throw new IllegalStateException(e);
        }
    }

    /** A call on an object made for it alone. */
    static final class Trial {
        final HeatPinch x;
        private final Maker maker;
        private final String name;
        private final int[] args;
        private final String rowBefore;
        private final long got;

        private Trial(Maker maker, String name, int... args) {
            this.maker = maker;
            this.name = name;
            this.args = args;
            x = maker.make();
            rowBefore = rowOf(x);
            got = call(x, name, args);
            looked++;
        }

        private void same(String what, Object had, Object want) {
            if (!had.equals(want)) {
                fault(name + Arrays.toString(args) + ": " + what + " is " + had + ", due is " + want);
            }
        }

        Trial is(long want) {
            same("the answer", got, want);
            return this;
        }

        Trial row(long... want) {
            StringBuilder s = new StringBuilder();
            for (long v : want) {
                s.append(v).append(' ');
            }
            same("the ROW", rowOf(x), s.toString().trim());
            return this;
        }

        Trial rowStays() {
            same("the ROW", rowOf(x), rowBefore);
            return this;
        }

        Trial restStays() {
            return becomes(maker);
        }

        /** But for the ROW the object is now as one that is made in that way. */
        Trial becomes(Maker like) {
            same("what can be seen", restOf(then(maker, y -> call(y, name, args))), restOf(like));
            return this;
        }

        Trial matches(String want) {
            HeatPinch again = maker.make();
            call(again, name, args);
            StringBuilder s = new StringBuilder();
            for (int side = 0; side < 2; side++) {
                for (int i = 0; i < again.count(3 + side); i++) {
                    s.append(side).append(':').append(again.match(side, i, 0)).append('+');
                    s.append(again.match(side, i, 1)).append('*').append(again.match(side, i, 2)).append(' ');
                }
            }
            same("what is joined", s.toString().trim(), want);
            return this;
        }
    }

    /** A call that may change something: what it left is looked at by the test. */
    static Trial does(Maker maker, String name, int... args) {
        return new Trial(maker, name, args);
    }

    /** A question: it changes nothing but the ROW. */
    static Trial asks(Maker maker, String name, int... args) {
        return new Trial(maker, name, args).restStays();
    }

    /** A call that is refused, and changes nothing at all. */
    static void refuses(Maker maker, long want, String name, int... args) {
        new Trial(maker, name, args).is(want).rowStays().restStays();
    }

    /** A call that throws NoSuchElementException, and changes nothing at all. */
    static void fails(Maker maker, String name, int... args) {
        refuses(maker, THREW, name, args);
    }

    /** An argument far out of its bounds is as one just outside. */
    static void refusesFar(Maker maker, long want, String name, int place, int... args) {
        for (int far : new int[] {LEAST, LEAST + 1, GREATEST - 1, GREATEST}) {
            int[] given = args.clone();
            given[place] = far;
            refuses(maker, want, name, given);
        }
    }
}
