import java.util.NoSuchElementException;

/**
 * Hot and cold streams that are joined so that least fuel is burnt.
 *
 * What follows from the streams and the gap (the cascade, what lies on each side of the pinch) is
 * worked out once when they change, so that questions only read it. All arrays are made with the
 * object: no call makes a new one.
 */
public final class HeatPinch {
    public static final int NONE = -1;

    private static final int MOST_STREAMS = 10;
    private static final int MOST_BORDERS = 2 * MOST_STREAMS;
    private static final int MOST_MATCHES = 24;
    private static final int MOST_SIGNS = 120;
    private static final int MOST_DEGREES = 500;
    private static final int MOST_CAPACITY = 20;
    private static final int MOST_GAP = 60;
    private static final int FIRST_GAP = 10;
    /** Added to a pinch that is answered, as temperatures below 0 would look like refusals. */
    private static final int LIFT = 1000;

    private static final int FROM = 0;
    private static final int TO = 1;
    private static final int CAPACITY = 2;

    private final Text text = new Text();
    private final Told told = new Told();
    private final Plant plant = new Plant();
    /** Streams as they would be, for questions and for a text that may turn out wrong. */
    private final Plant other = new Plant();
    private final Cascade now = new Cascade();
    private final Cascade then = new Cascade();
    private final Side upper = new Side(1);
    private final Side lower = new Side(-1);
    private int gap = FIRST_GAP;

    public HeatPinch() {
    }

    public int sign(int v) {
        return text.put(v) ? text.size : NONE;
    }

    public boolean end(int n) {
        return text.cut(n);
    }

    // ---- streams

    public int streams() {
        int fault = text.readInto(other);
        text.cut(0);
        if (fault != NONE) {
            return -1 - fault;
        }
        plant.copy(other);
        settle();
        return plant.size;
    }

    public int sets(int stream, int what, int v) {
        if (!plant.has(stream) || !isValue(what, v)) {
            return NONE;
        }
        int was = plant.value(stream, what);
        if (was == v) {
            return -2;
        }
        if (plant.turns(stream, what, v)) {
            return -3;
        }
        plant.put(stream, what, v);
        settle();
        return was;
    }

    public int gap(int v) {
        if (!isGap(v)) {
            return NONE;
        }
        int was = gap;
        if (was == v) {
            return -2;
        }
        gap = v;
        settle();
        return was;
    }

    public int splits(int stream, int v) {
        if (!plant.has(stream) || v < 1 || v >= plant.cap[stream]) {
            return NONE;
        }
        if (plant.size >= MOST_STREAMS) {
            return -2;
        }
        plant.put(stream, CAPACITY, plant.cap[stream] - v);
        plant.add(plant.hot[stream], plant.from[stream], plant.to[stream], v);
        settle();
        return plant.size - 1;
    }

    public int drops(int stream) {
        if (!plant.has(stream)) {
            return NONE;
        }
        plant.remove(stream);
        settle();
        return plant.size;
    }

    public int stream(int i, int what) throws NoSuchElementException {
        if (!plant.has(i) || what < 0 || what > 4) {
            throw new NoSuchElementException("no such stream, or nothing such of it");
        }
        if (what == 0) {
            return plant.hot[i] ? 1 : 0;
        }
        return what == 4 ? plant.heatOf(i) : plant.value(i, what - 1);
    }

    // ---- shelves

    public int border(int k) throws NoSuchElementException {
        if (k < 0 || k >= now.size) {
            throw new NoSuchElementException("no such border");
        }
        told.tell(now.carry[k], now.surplusOf(k), now.hotCap[k], now.coldCap[k]);
        return now.at[k];
    }

    public int fuel() {
        told.tell(now.cool(), now.size);
        return now.need;
    }

    public int pinch() {
        if (plant.size == 0) {
            return -2;
        }
        told.empty();
        for (int k = 0; k < now.size; k++) {
            if (now.carry[k] == 0) {
                told.add(LIFT + now.at[k]);
            }
        }
        return LIFT + now.pinchAt();
    }

    public int carry(int t) {
        if (t < -MOST_GAP || t > MOST_DEGREES) {
            return NONE;
        }
        if (!now.spans(t)) {
            return -2;
        }
        told.tell(now.carryAt(t));
        return 0;
    }

    public int above(boolean hot, int t) {
        if (!isDegree(t)) {
            return NONE;
        }
        told.tell(plant.howManyAt(hot, t));
        return plant.heatAbove(hot, t);
    }

    public int level(boolean hot, int q) {
        if (q < 1) {
            return NONE;
        }
        int missing = q;
        int top = plant.endBelow(hot, MOST_DEGREES + 1);
        for (int k = 0; k < MOST_BORDERS && top != NONE; k++) {
            int next = plant.endBelow(hot, top);
            int cap = next == NONE ? 0 : plant.capThrough(hot, next, top);
            int heat = cap * (top - next);
            if (heat >= missing) {
                told.empty();
                told.addFraction(top * cap - missing, cap);
                return 0;
            }
            missing -= heat;
            top = next;
        }
        return -2;
    }

    public int by(int g) {
        if (!isGap(g)) {
            return NONE;
        }
        if (plant.size == 0) {
            return -2;
        }
        then.work(plant, g);
        told.tell(then.cool(), LIFT + then.pinchAt());
        return then.need;
    }

    public int widest(int f) {
        if (f < 0) {
            return NONE;
        }
        int good = NONE;
        int bad = MOST_GAP + 1;
        int fuelOfGood = 0;
        // Halving is enough: a greater gap puts hot streams lower, which never lessens the fuel.
        for (int k = 0; k <= MOST_GAP && bad - good > 1; k++) {
            int middle = (good + bad) / 2;
            then.work(plant, middle);
            if (then.need <= f) {
                good = middle;
                fuelOfGood = then.need;
            } else {
                bad = middle;
            }
        }
        if (good == NONE) {
            return -2;
        }
        told.tell(fuelOfGood);
        return good;
    }

    public int were(int stream, int what, int v) {
        if (!plant.has(stream) || !isValue(what, v)) {
            return NONE;
        }
        if (plant.turns(stream, what, v)) {
            return -3;
        }
        other.copy(plant);
        other.put(stream, what, v);
        return fuelOfOther();
    }

    public int without(int stream) {
        if (!plant.has(stream)) {
            return NONE;
        }
        other.copy(plant);
        other.remove(stream);
        return fuelOfOther();
    }

    public int dearest() {
        if (plant.size == 0) {
            return -2;
        }
        int best = NONE;
        int least = 0;
        for (int i = 0; i < plant.size; i++) {
            other.copy(plant);
            other.remove(i);
            then.work(other, gap);
            if (best == NONE || then.need < least) {
                best = i;
                least = then.need;
            }
        }
        told.tell(least);
        return best;
    }

    // ---- what comes to the pinch

    public int arrive(int side) {
        if (!isSide(side)) {
            return NONE;
        }
        Side s = sideOf(side);
        int hots = s.arriving(true, 0);
        int colds = s.arriving(false, 0);
        boolean enough = side == 0 ? hots <= colds : colds <= hots;
        told.tell(colds, enough ? 1 : 0, s.allPaired(side == 0) ? 1 : 0);
        return hots;
    }

    public int range(int side, int stream) {
        if (!isSide(side) || !plant.has(stream)) {
            return NONE;
        }
        Side s = sideOf(side);
        told.tell(s.near[stream], s.far[stream], s.heat[stream], s.rest(stream));
        return s.heat[stream] > 0 ? 1 : 0;
    }

    // ---- matches

    public int joins(int side, int hot, int cold, int load) {
        if (!canMeet(side, hot, cold) || load < 1) {
            return NONE;
        }
        Side s = sideOf(side);
        if (s.size >= MOST_MATCHES) {
            return -2;
        }
        if (load > s.rest(hot) || load > s.rest(cold)) {
            return -3;
        }
        if (!s.isWide(hot, cold, s.used[hot], s.used[cold])) {
            return -4;
        }
        if (!s.isWide(hot, cold, s.used[hot] + load, s.used[cold] + load)) {
            return -5;
        }
        s.add(hot, cold, load);
        told.tell(s.rest(hot), s.rest(cold));
        return s.size - 1;
    }

    public int most(int side, int hot, int cold) {
        return canMeet(side, hot, cold) ? sideOf(side).greatestLoad(hot, cold) : NONE;
    }

    public int ticks(int side) {
        if (!isSide(side)) {
            return NONE;
        }
        Side s = sideOf(side);
        int before = s.size;
        for (int k = before; k < MOST_MATCHES; k++) {
            if (!s.joinGreatest()) {
                break;
            }
        }
        told.tell(s.restOfKind(true), s.restOfKind(false));
        return s.size - before;
    }

    public int match(int side, int i, int what) throws NoSuchElementException {
        if (!hasMatch(side, i) || what < 0 || what > 2) {
            throw new NoSuchElementException("no such match, or nothing such of it");
        }
        Side s = sideOf(side);
        int unit = s.unit(s.hot[i], s.cold[i]);
        told.empty();
        told.addFraction(s.widthOf(i, false), unit);
        told.addFraction(s.widthOf(i, true), unit);
        if (what == 2) {
            return s.load[i];
        }
        return what == 0 ? s.hot[i] : s.cold[i];
    }

    public int area(int side, int i) {
        return hasMatch(side, i) ? sideOf(side).areaOf(i) : NONE;
    }

    public int total() {
        int sum = 0;
        int lacking = 0;
        int most = 0;
        int where = NONE;
        for (int side = 0; side < 2; side++) {
            Side s = sideOf(side);
            for (int i = 0; i < s.size; i++) {
                int needs = s.areaOf(i);
                if (needs < 0) {
                    lacking++;
                    continue;
                }
                sum += needs;
                if (needs > most) {
                    most = needs;
                    where = 100 * side + i;
                }
            }
        }
        told.tell(lacking, where);
        return sum;
    }

    public int leaves(int side, int i) {
        if (!hasMatch(side, i)) {
            return NONE;
        }
        Side s = sideOf(side);
        s.wantAsIs();
        s.wanted[i] = 0;
        return takesWanted(s) ? s.size : -4;
    }

    public int loads(int side, int i, int v) {
        if (!hasMatch(side, i) || v < 1) {
            return NONE;
        }
        Side s = sideOf(side);
        int was = s.load[i];
        if (was == v) {
            return -2;
        }
        if (v > s.rest(s.hot[i]) + was || v > s.rest(s.cold[i]) + was) {
            return -3;
        }
        s.wantAsIs();
        s.wanted[i] = v;
        return takesWanted(s) ? was : -4;
    }

    public int clears(int side) {
        if (!isSide(side)) {
            return NONE;
        }
        Side s = sideOf(side);
        int had = s.size;
        s.empty();
        return had;
    }

    public int left() {
        int colds = upper.restOfKind(false) + lower.restOfKind(false);
        int hots = upper.restOfKind(true) + lower.restOfKind(true);
        told.tell(hots, colds - now.need);
        return colds;
    }

    // ---- loops

    public int loops(int side) {
        if (!isSide(side)) {
            return NONE;
        }
        Side s = sideOf(side);
        int joined = s.joinedStreams();
        int parts = joined - s.mergers();
        told.tell(s.size, joined, parts);
        return s.size - joined + parts;
    }

    public int loop(int side, int i) {
        if (!hasMatch(side, i)) {
            return NONE;
        }
        Side s = sideOf(side);
        if (!s.findRing(i)) {
            return -2;
        }
        told.empty();
        for (int k = 0; k < s.ringSize; k++) {
            told.add(s.ring[k]);
        }
        return s.ringSize;
    }

    public int breaks(int side, int i) {
        if (!hasMatch(side, i)) {
            return NONE;
        }
        Side s = sideOf(side);
        if (!s.findRing(i)) {
            return -2;
        }
        int lacking = s.wantRoundRing();
        if (lacking != NONE) {
            told.tell(lacking);
            return -3;
        }
        return takesWanted(s) ? s.size : -4;
    }

    public int count(int what) {
        switch (what) {
            case 0: return plant.size;
            case 1: return plant.hotBits();
            case 2: return gap;
            case 3: return upper.size;
            case 4: return lower.size;
            case 5: return plant.heatAbove(true, 0);
            case 6: return plant.heatAbove(false, 0);
            case 7: return told.size;
            case 8: return text.size;
            default: return NONE;
        }
    }

    public long row(int i) throws NoSuchElementException {
        if (i < 0 || i >= told.size) {
            throw new NoSuchElementException("the row has no such number");
        }
        return told.numbers[i];
    }

    // ---- what several calls share

    private static boolean isDegree(int t) {
        return t >= 0 && t <= MOST_DEGREES;
    }

    private static boolean isGap(int g) {
        return g >= 0 && g <= MOST_GAP;
    }

    private static boolean isSide(int side) {
        return side == 0 || side == 1;
    }

    private static boolean isValue(int what, int v) {
        if (what == CAPACITY) {
            return v >= 1 && v <= MOST_CAPACITY;
        }
        return (what == FROM || what == TO) && isDegree(v);
    }

    private Side sideOf(int side) {
        return side == 0 ? upper : lower;
    }

    private boolean hasMatch(int side, int i) {
        return isSide(side) && i >= 0 && i < sideOf(side).size;
    }

    private boolean canMeet(int side, int hot, int cold) {
        return isSide(side) && sideOf(side).hasHeat(hot, true) && sideOf(side).hasHeat(cold, false);
    }

    /** Another stream or gap moves the pinch, so no match can stay. */
    private void settle() {
        now.work(plant, gap);
        upper.lay(plant, now.pinchAt(), gap);
        lower.lay(plant, now.pinchAt(), gap);
    }

    private int fuelOfOther() {
        then.work(other, gap);
        told.tell(then.cool(), then.need - now.need);
        return then.need;
    }

    private boolean takesWanted(Side s) {
        int narrow = s.firstTooNarrow();
        if (narrow != NONE) {
            told.tell(narrow);
            return false;
        }
        s.takeWanted();
        return true;
    }

    private static int commonDivisor(int a, int b) {
        int x = a;
        int y = b;
        // Euclid's steps on ints are fewer than 50.
        for (int k = 0; k < 50 && y != 0; k++) {
            int r = x % y;
            x = y;
            y = r;
        }
        return x;
    }

    /** The ROW. */
    private static final class Told {
        final long[] numbers = new long[MOST_MATCHES];
        int size = 0;

        void empty() {
            size = 0;
        }

        void add(long v) {
            if (size < numbers.length) {
                numbers[size] = v;
                size++;
            }
        }

        void addFraction(int over, int under) {
            int d = commonDivisor(over, under);
            add(d > 1 ? over / d : over);
            add(d > 1 ? under / d : under);
        }

        void tell(long a) {
            empty();
            add(a);
        }

        void tell(long a, long b) {
            tell(a);
            add(b);
        }

        void tell(long a, long b, long c) {
            tell(a, b);
            add(c);
        }

        void tell(long a, long b, long c, long d) {
            tell(a, b, c);
            add(d);
        }
    }

    /** THE TEXT, and how streams are read from it. */
    private static final class Text {
        final int[] signs = new int[MOST_SIGNS];
        int size = 0;
        /** Where reading stands. */
        private int at = 0;
        /** The number read last. */
        private int value = 0;
        /** The place that reading could not pass, or NONE. */
        private int fault = NONE;

        boolean put(int v) {
            if (size + 4 > MOST_SIGNS) {
                return false;
            }
            for (int shift = 24; shift >= 0; shift -= 8) {
                signs[size] = (v >>> shift) & 255;
                size++;
            }
            return true;
        }

        boolean cut(int n) {
            if (n < 0 || n > size) {
                return false;
            }
            size = n;
            return true;
        }

        /** NONE, or the place of the sign that can't stand there. */
        int readInto(Plant into) {
            into.empty();
            at = 0;
            fault = NONE;
            if (size == 0) {
                return NONE;
            }
            for (int k = 1; k <= MOST_STREAMS; k++) {
                if (!readStream(into)) {
                    return fault;
                }
                if (at >= size) {
                    return NONE;
                }
                if (k == MOST_STREAMS || !readSign(',')) {
                    return at;
                }
            }
            return at;
        }

        private boolean readStream(Plant into) {
            boolean hot = readSign('h');
            if (!hot && !readSign('c')) {
                return failAt(at);
            }
            if (!readNumber(3, 0, MOST_DEGREES)) {
                return false;
            }
            int from = value;
            if (!readSign('-')) {
                return failAt(at);
            }
            int least = hot ? 0 : from + 1;
            int greatest = hot ? from - 1 : MOST_DEGREES;
            if (!readNumber(3, least, greatest)) {
                return false;
            }
            int to = value;
            if (!readSign('*')) {
                return failAt(at);
            }
            if (!readNumber(2, 1, MOST_CAPACITY)) {
                return false;
            }
            into.add(hot, from, to, value);
            return true;
        }

        private boolean readNumber(int digits, int least, int greatest) {
            int begin = at;
            value = 0;
            while (at - begin < digits && isDigitHere()) {
                value = 10 * value + signs[at] - '0';
                at++;
            }
            if (at == begin || (at - begin == digits && isDigitHere())) {
                return failAt(at);
            }
            return (value >= least && value <= greatest) || failAt(at - 1);
        }

        private boolean readSign(char c) {
            if (at >= size || signs[at] != c) {
                return false;
            }
            at++;
            return true;
        }

        private boolean isDigitHere() {
            return at < size && signs[at] >= '0' && signs[at] <= '9';
        }

        private boolean failAt(int p) {
            fault = p;
            return false;
        }
    }

    /** Streams. */
    private static final class Plant {
        final boolean[] hot = new boolean[MOST_STREAMS];
        final int[] from = new int[MOST_STREAMS];
        final int[] to = new int[MOST_STREAMS];
        final int[] cap = new int[MOST_STREAMS];
        int size = 0;

        void empty() {
            size = 0;
        }

        boolean has(int i) {
            return i >= 0 && i < size;
        }

        void add(boolean isHot, int begin, int end, int capacity) {
            if (size < MOST_STREAMS) {
                hot[size] = isHot;
                from[size] = begin;
                to[size] = end;
                cap[size] = capacity;
                size++;
            }
        }

        void copy(Plant p) {
            size = 0;
            for (int i = 0; i < p.size; i++) {
                add(p.hot[i], p.from[i], p.to[i], p.cap[i]);
            }
        }

        void remove(int stream) {
            for (int i = stream + 1; i < size; i++) {
                hot[i - 1] = hot[i];
                from[i - 1] = from[i];
                to[i - 1] = to[i];
                cap[i - 1] = cap[i];
            }
            size--;
        }

        int value(int i, int what) {
            if (what == CAPACITY) {
                return cap[i];
            }
            return what == FROM ? from[i] : to[i];
        }

        void put(int i, int what, int v) {
            if (what == CAPACITY) {
                cap[i] = v;
            } else if (what == FROM) {
                from[i] = v;
            } else {
                to[i] = v;
            }
        }

        /** Whether a hot stream would no more be hot by that value, or a cold one cold. */
        boolean turns(int i, int what, int v) {
            int begin = what == FROM ? v : from[i];
            int end = what == TO ? v : to[i];
            return hot[i] ? begin <= end : begin >= end;
        }

        int low(int i) {
            return Math.min(from[i], to[i]);
        }

        int high(int i) {
            return Math.max(from[i], to[i]);
        }

        int heatOf(int i) {
            return cap[i] * (high(i) - low(i));
        }

        int hotBits() {
            int bits = 0;
            for (int i = 0; i < size; i++) {
                if (hot[i]) {
                    bits |= 1 << i;
                }
            }
            return bits;
        }

        int heatAbove(boolean isHot, int t) {
            int heat = 0;
            for (int i = 0; i < size; i++) {
                if (hot[i] == isHot && high(i) > t) {
                    heat += cap[i] * (high(i) - Math.max(low(i), t));
                }
            }
            return heat;
        }

        int howManyAt(boolean isHot, int t) {
            int many = 0;
            for (int i = 0; i < size; i++) {
                if (hot[i] == isHot && low(i) <= t && high(i) >= t) {
                    many++;
                }
            }
            return many;
        }

        /** Capacities of the streams of a kind that go all the way between two temperatures. */
        int capThrough(boolean isHot, int bottom, int top) {
            int sum = 0;
            for (int i = 0; i < size; i++) {
                if (hot[i] == isHot && low(i) <= bottom && high(i) >= top) {
                    sum += cap[i];
                }
            }
            return sum;
        }

        /** The greatest end of a stream of a kind that is below a temperature, or NONE. */
        int endBelow(boolean isHot, int t) {
            int best = NONE;
            for (int i = 0; i < size; i++) {
                if (hot[i] == isHot) {
                    best = from[i] < t ? Math.max(best, from[i]) : best;
                    best = to[i] < t ? Math.max(best, to[i]) : best;
                }
            }
            return best;
        }
    }

    /** Borders, shelves and what is handed down. */
    private static final class Cascade {
        final int[] at = new int[MOST_BORDERS];
        final int[] carry = new int[MOST_BORDERS];
        /** Capacities through the shelf behind each border. */
        final int[] hotCap = new int[MOST_BORDERS];
        final int[] coldCap = new int[MOST_BORDERS];
        int size = 0;
        /** FUEL. */
        int need = 0;

        void work(Plant p, int gap) {
            placeBorders(p, gap);
            int sum = 0;
            int least = 0;
            for (int k = 0; k < size; k++) {
                boolean last = k == size - 1;
                hotCap[k] = last ? 0 : p.capThrough(true, at[k + 1] + gap, at[k] + gap);
                coldCap[k] = last ? 0 : p.capThrough(false, at[k + 1], at[k]);
                carry[k] = sum;
                least = Math.min(least, sum);
                sum += surplusOf(k);
            }
            need = -least;
            for (int k = 0; k < size; k++) {
                carry[k] += need;
            }
        }

        private void placeBorders(Plant p, int gap) {
            size = 0;
            for (int i = 0; i < p.size; i++) {
                int down = p.hot[i] ? gap : 0;
                placeBorder(p.from[i] - down);
                placeBorder(p.to[i] - down);
            }
        }

        private void placeBorder(int t) {
            int k = 0;
            while (k < size && at[k] > t) {
                k++;
            }
            if (size >= MOST_BORDERS || (k < size && at[k] == t)) {
                return;
            }
            for (int j = size; j > k; j--) {
                at[j] = at[j - 1];
            }
            at[k] = t;
            size++;
        }

        int surplusOf(int k) {
            return k < size - 1 ? (at[k] - at[k + 1]) * (hotCap[k] - coldCap[k]) : 0;
        }

        int cool() {
            return size == 0 ? 0 : carry[size - 1];
        }

        /** The first border with a carry of 0: there is one as soon as there are borders. */
        int pinchAt() {
            for (int k = 0; k < size; k++) {
                if (carry[k] == 0) {
                    return at[k];
                }
            }
            return 0;
        }

        boolean spans(int t) {
            return size > 0 && t <= at[0] && t >= at[size - 1];
        }

        int carryAt(int t) {
            int k = 0;
            while (k < size - 1 && at[k + 1] >= t) {
                k++;
            }
            return carry[k] + (at[k] - t) * (hotCap[k] - coldCap[k]);
        }
    }

    /**
     * What lies above the pinch, or below it, and the matches there. Widths are reckoned times the
     * capacities of both streams (see unit), as they are whole numbers so.
     */
    private static final class Side {
        /** 1 where temperatures rise away from the pinch, -1 where they fall. */
        private final int up;
        private int gap = FIRST_GAP;
        private int streamCount = 0;
        private final boolean[] isHot = new boolean[MOST_STREAMS];
        private final boolean[] comes = new boolean[MOST_STREAMS];
        private final int[] cap = new int[MOST_STREAMS];
        final int[] near = new int[MOST_STREAMS];
        final int[] far = new int[MOST_STREAMS];
        final int[] heat = new int[MOST_STREAMS];
        /** Loads of each stream together. */
        final int[] used = new int[MOST_STREAMS];
        final int[] hot = new int[MOST_MATCHES];
        final int[] cold = new int[MOST_MATCHES];
        final int[] load = new int[MOST_MATCHES];
        /** Loads that the matches would have; one of 0 would go. */
        final int[] wanted = new int[MOST_MATCHES];
        int size = 0;
        final int[] ring = new int[MOST_STREAMS];
        int ringSize = 0;
        /** A number of each stream, for the search of loops and parts. */
        private final int[] mark = new int[MOST_STREAMS];

        Side(int up) {
            this.up = up;
        }

        void lay(Plant p, int pinch, int newGap) {
            gap = newGap;
            streamCount = p.size;
            for (int i = 0; i < streamCount; i++) {
                isHot[i] = p.hot[i];
                cap[i] = p.cap[i];
                int border = p.hot[i] ? pinch + newGap : pinch;
                int begin = up > 0 ? Math.max(p.low(i), border) : Math.min(p.high(i), border);
                int end = up > 0 ? p.high(i) : p.low(i);
                boolean there = up * (end - begin) > 0;
                near[i] = there ? begin : 0;
                far[i] = there ? end : 0;
                heat[i] = there ? cap[i] * up * (end - begin) : 0;
                comes[i] = there && begin == border;
            }
            empty();
        }

        void empty() {
            size = 0;
            for (int i = 0; i < streamCount; i++) {
                used[i] = 0;
            }
        }

        boolean hasHeat(int stream, boolean kind) {
            return stream >= 0 && stream < streamCount && isHot[stream] == kind && heat[stream] > 0;
        }

        int rest(int stream) {
            return heat[stream] - used[stream];
        }

        int restOfKind(boolean kind) {
            int sum = 0;
            for (int i = 0; i < streamCount; i++) {
                if (isHot[i] == kind) {
                    sum += rest(i);
                }
            }
            return sum;
        }

        /** How many streams of a kind come to the pinch with such a capacity or a greater one. */
        int arriving(boolean kind, int leastCap) {
            int many = 0;
            for (int i = 0; i < streamCount; i++) {
                if (comes[i] && isHot[i] == kind && cap[i] >= leastCap) {
                    many++;
                }
            }
            return many;
        }

        /** As partners of a greater capacity do for lesser ones too, it is enough to count them. */
        boolean allPaired(boolean kind) {
            for (int c = 1; c <= MOST_CAPACITY; c++) {
                if (arriving(kind, c) > arriving(!kind, c)) {
                    return false;
                }
            }
            return true;
        }

        int unit(int h, int c) {
            return cap[h] * cap[c];
        }

        /** Width (times unit) where both streams have had such loads from the pinch on. */
        private int width(int h, int c, int loadsHot, int loadsCold) {
            int apart = (near[h] - near[c]) * unit(h, c);
            return apart + up * (loadsHot * cap[c] - loadsCold * cap[h]);
        }

        private int spare(int h, int c, int loadsHot, int loadsCold) {
            return width(h, c, loadsHot, loadsCold) - gap * unit(h, c);
        }

        boolean isWide(int h, int c, int loadsHot, int loadsCold) {
            return spare(h, c, loadsHot, loadsCold) >= 0;
        }

        int greatestLoad(int h, int c) {
            int spare = spare(h, c, used[h], used[c]);
            if (spare < 0) {
                return 0;
            }
            int room = Math.min(rest(h), rest(c));
            int lossByLoad = up * (cap[h] - cap[c]);
            return lossByLoad > 0 ? Math.min(room, spare / lossByLoad) : room;
        }

        void add(int h, int c, int v) {
            if (size < MOST_MATCHES) {
                hot[size] = h;
                cold[size] = c;
                load[size] = v;
                size++;
                used[h] += v;
                used[c] += v;
            }
        }

        boolean joinGreatest() {
            int most = 0;
            int bestHot = NONE;
            int bestCold = NONE;
            for (int h = 0; h < streamCount; h++) {
                for (int c = 0; c < streamCount; c++) {
                    int v = hasHeat(h, true) && hasHeat(c, false) ? greatestLoad(h, c) : 0;
                    if (v > most) {
                        most = v;
                        bestHot = h;
                        bestCold = c;
                    }
                }
            }
            if (most == 0) {
                return false;
            }
            add(bestHot, bestCold, most);
            return true;
        }

        private int sumAhead(int[] loads, int i, int stream) {
            int sum = 0;
            for (int k = 0; k < i; k++) {
                if (hot[k] == stream || cold[k] == stream) {
                    sum += loads[k];
                }
            }
            return sum;
        }

        /** Width (times unit) at the begin or the end of a match. */
        int widthOf(int i, boolean atEnd) {
            int own = atEnd ? load[i] : 0;
            int h = hot[i];
            int c = cold[i];
            return width(h, c, sumAhead(load, i, h) + own, sumAhead(load, i, c) + own);
        }

        int areaOf(int i) {
            int both = widthOf(i, false) + widthOf(i, true);
            if (both <= 0) {
                return -2;
            }
            int twice = 2 * load[i] * unit(hot[i], cold[i]);
            return (twice + both - 1) / both;
        }

        void wantAsIs() {
            for (int k = 0; k < size; k++) {
                wanted[k] = load[k];
            }
        }

        /** By the loads wanted: the first match (as it would be numbered) that would not keep. */
        int firstTooNarrow() {
            int number = 0;
            for (int k = 0; k < size; k++) {
                if (wanted[k] == 0) {
                    continue;
                }
                int h = hot[k];
                int c = cold[k];
                int onHot = sumAhead(wanted, k, h);
                int onCold = sumAhead(wanted, k, c);
                if (!isWide(h, c, onHot, onCold)
                        || !isWide(h, c, onHot + wanted[k], onCold + wanted[k])) {
                    return number;
                }
                number++;
            }
            return NONE;
        }

        void takeWanted() {
            int had = size;
            empty();
            for (int k = 0; k < had; k++) {
                if (wanted[k] > 0) {
                    add(hot[k], cold[k], wanted[k]);
                }
            }
        }

        private void markAll(int v) {
            for (int i = 0; i < streamCount; i++) {
                mark[i] = v;
            }
        }

        int joinedStreams() {
            int many = 0;
            for (int i = 0; i < streamCount; i++) {
                if (used[i] > 0) {
                    many++;
                }
            }
            return many;
        }

        /** How many matches join two parts that did not yet hang together by those ahead. */
        int mergers() {
            for (int i = 0; i < streamCount; i++) {
                mark[i] = i;
            }
            int many = 0;
            for (int k = 0; k < size; k++) {
                int gone = mark[hot[k]];
                int stays = mark[cold[k]];
                if (gone != stays) {
                    many++;
                    for (int i = 0; i < streamCount; i++) {
                        mark[i] = mark[i] == gone ? stays : mark[i];
                    }
                }
            }
            return many;
        }

        /**
         * Puts the loop of a match into the ring. A shortest way from its cold stream to its hot
         * one without it meets no stream twice; the least number at each step is the first way.
         */
        boolean findRing(int i) {
            markSteps(i);
            int stream = cold[i];
            ring[0] = i;
            ringSize = 1;
            for (int steps = mark[stream]; steps > 0 && ringSize < ring.length; steps--) {
                int next = firstTowards(i, stream, steps - 1);
                if (next == NONE) {
                    return false;
                }
                ring[ringSize] = next;
                ringSize++;
                stream = otherEnd(next, stream);
            }
            return stream == hot[i];
        }

        /** Marks streams with how many matches they are away from the hot one of a match. */
        private void markSteps(int i) {
            markAll(NONE);
            mark[hot[i]] = 0;
            for (int steps = 1; steps < streamCount; steps++) {
                for (int k = 0; k < size; k++) {
                    if (k != i) {
                        markNext(hot[k], cold[k], steps);
                        markNext(cold[k], hot[k], steps);
                    }
                }
            }
        }

        private void markNext(int reached, int next, int steps) {
            if (mark[reached] == steps - 1 && mark[next] == NONE) {
                mark[next] = steps;
            }
        }

        private int firstTowards(int i, int stream, int steps) {
            for (int k = 0; k < size; k++) {
                boolean on = hot[k] == stream || cold[k] == stream;
                if (k != i && on && mark[otherEnd(k, stream)] == steps) {
                    return k;
                }
            }
            return NONE;
        }

        private int otherEnd(int k, int stream) {
            return hot[k] == stream ? cold[k] : hot[k];
        }

        /** Wants the load of the ring's first match moved round: the match that lacks, or NONE. */
        int wantRoundRing() {
            int moved = load[ring[0]];
            wantAsIs();
            wanted[ring[0]] = 0;
            for (int k = 1; k < ringSize; k++) {
                int m = ring[k];
                wanted[m] += k % 2 == 1 ? moved : -moved;
                if (wanted[m] < 0) {
                    return m;
                }
            }
            return NONE;
        }
    }
}
