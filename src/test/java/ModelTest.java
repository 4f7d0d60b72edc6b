import java.util.ArrayList;
import java.util.Arrays;
import java.util.List;
import java.util.NoSuchElementException;
import java.util.Random;
import java.util.TreeMap;
import java.util.TreeSet;

/**
 * Runs of calls on the class and on a model that follows the document's words degree by degree and
 * by trying everything; answers and all that can be seen of the state are compared after each call.
 */
public final class ModelTest {
    private static final long THROWN = Long.MIN_VALUE;
    private static final int RUNS = 2000;
    private static final int CALLS = 160;
    private static final String[] NAMES = {
        "sign", "end", "streams", "sets", "gap", "splits", "drops", "stream", "border", "fuel", "pinch",
        "carry", "above", "level", "by", "widest", "were", "without", "dearest", "arrive", "range",
        "joins", "most", "ticks", "match", "area", "total", "leaves", "loads", "clears", "left",
        "loops", "loop", "breaks", "count", "row",
    };

    // ---- exact fractions, not in least terms

    private record Fraction(long over, long under) {
        Fraction plus(Fraction f) {
            return new Fraction(over * f.under + f.over * under, under * f.under);
        }

        Fraction minus(Fraction f) {
            return plus(new Fraction(-f.over, f.under));
        }

        boolean below(long v) {
            return over < v * under;
        }

        void addTo(List<Long> row) {
            long g = 1;
            for (long d = 1; d <= under; d++) {
                if (under % d == 0 && over % d == 0) {
                    g = d;
                }
            }
            row.add(over / g);
            row.add(under / g);
        }
    }

    private record Stream(boolean hot, int from, int to, int cap) {
        int low() {
            return hot ? to : from;
        }

        int high() {
            return hot ? from : to;
        }

        Stream with(int what, int v) {
            return new Stream(hot, what == 0 ? v : from, what == 1 ? v : to, what == 2 ? v : cap);
        }

        boolean sound() {
            return hot ? from > to : from < to;
        }
    }

    private record Match(int hot, int cold, int load) {
    }

    /** What follows from some streams and a gap. */
    private static final class Flow {
        final List<Integer> borders;
        final List<Integer> noughts = new ArrayList<>();
        final List<Stream> all;
        final int gap;
        int fuel = 0;

        Flow(List<Stream> all, int gap) {
            this.all = all;
            this.gap = gap;
            TreeSet<Integer> set = new TreeSet<>();
            for (Stream s : all) {
                set.add(s.from - (s.hot ? gap : 0));
                set.add(s.to - (s.hot ? gap : 0));
            }
            borders = new ArrayList<>(set.descendingSet());
            for (int b : borders) {
                fuel = Math.max(fuel, -surplusAbove(b));
            }
            for (int b : borders) {
                if (carry(b) == 0) {
                    noughts.add(b);
                }
            }
        }

        int capacity(boolean hot, int degree) {
            int sum = 0;
            for (Stream s : all) {
                int down = s.hot ? gap : 0;
                if (s.hot == hot && s.low() - down <= degree && degree < s.high() - down) {
                    sum += s.cap;
                }
            }
            return sum;
        }

        int surplusAbove(int t) {
            int sum = 0;
            for (Stream s : all) {
                int down = s.hot ? gap : 0;
                for (int d = Math.max(t, s.low() - down); d < s.high() - down; d++) {
                    sum += s.hot ? s.cap : -s.cap;
                }
            }
            return sum;
        }

        int carry(int t) {
            return fuel + surplusAbove(t);
        }

        int cool() {
            return borders.isEmpty() ? 0 : carry(borders.get(borders.size() - 1));
        }

        int pinch() {
            return noughts.isEmpty() ? 0 : noughts.get(0);
        }
    }

    // ---- the model

    private static final class Model {
        String text = "";
        List<Stream> all = new ArrayList<>();
        int gap = 10;
        Flow flow = new Flow(all, gap);
        List<Long> row = new ArrayList<>();
        List<List<Match>> sides = List.of(new ArrayList<>(), new ArrayList<>());

        private void tell(long... numbers) {
            row = new ArrayList<>();
            for (long v : numbers) {
                row.add(v);
            }
        }

        private void changed() {
            flow = new Flow(all, gap);
            sides.get(0).clear();
            sides.get(1).clear();
        }

        long call(int op, int[] a) {
            switch (NAMES[op]) {
                case "sign": return sign(a[0]);
                case "end": return end(a[0]);
                case "streams": return streams();
                case "sets": return sets(a[0], a[1], a[2]);
                case "gap": return gap(a[0]);
                case "splits": return splits(a[0], a[1]);
                case "drops": return drops(a[0]);
                case "stream": return stream(a[0], a[1]);
                case "border": return border(a[0]);
                case "fuel": return fuel();
                case "pinch": return pinch();
                case "carry": return carry(a[0]);
                case "above": return above(a[0] != 0, a[1]);
                case "level": return level(a[0] != 0, a[1]);
                case "by": return by(a[0]);
                case "widest": return widest(a[0]);
                case "were": return were(a[0], a[1], a[2]);
                case "without": return without(a[0]);
                case "dearest": return dearest();
                case "arrive": return arrive(a[0]);
                case "range": return range(a[0], a[1]);
                case "joins": return joins(a[0], a[1], a[2], a[3]);
                case "most": return most(a[0], a[1], a[2]);
                case "ticks": return ticks(a[0]);
                case "match": return match(a[0], a[1], a[2]);
                case "area": return area(a[0], a[1]);
                case "total": return total();
                case "leaves": return leaves(a[0], a[1]);
                case "loads": return loads(a[0], a[1], a[2]);
                case "clears": return clears(a[0]);
                case "left": return left();
                case "loops": return loops(a[0]);
                case "loop": return loop(a[0], a[1]);
                case "breaks": return breaks(a[0], a[1]);
                case "count": return count(a[0]);
                default: return a[0] >= 0 && a[0] < row.size() ? row.get(a[0]) : THROWN;
            }
        }

        boolean isStream(int i) {
            return i >= 0 && i < all.size();
        }

        boolean isMatch(int side, int i) {
            return (side == 0 || side == 1) && i >= 0 && i < sides.get(side).size();
        }

        long sign(int v) {
            if (text.length() > 116) {
                return -1;
            }
            for (int shift = 24; shift >= 0; shift -= 8) {
                text += (char) (v >>> shift & 255);
            }
            return text.length();
        }

        long end(int n) {
            if (n < 0 || n > text.length()) {
                return 0;
            }
            text = text.substring(0, n);
            return 1;
        }

        // Reads by cutting the text at what has to stand between numbers.
        long streams() {
            String t = text + (char) 999;
            text = "";
            List<Stream> got = new ArrayList<>();
            if (t.length() == 1) {
                all = got;
                changed();
                return 0;
            }
            int p = 0;
            while (true) {
                if (t.charAt(p) != 'h' && t.charAt(p) != 'c') {
                    return -1 - p;
                }
                boolean hot = t.charAt(p) == 'h';
                int[] numbers = new int[3];
                for (int k = 0; k < 3; k++) {
                    int most = k == 2 ? 2 : 3;
                    int q = p + 1;
                    while (Character.isDigit(t.charAt(q)) && t.charAt(q) < 128) {
                        q++;
                    }
                    if (q == p + 1) {
                        return -1 - q;
                    }
                    if (q - p - 1 > most) {
                        return -1 - (p + 1 + most);
                    }
                    int v = Integer.parseInt(t.substring(p + 1, q));
                    boolean good = k == 2 ? v >= 1 && v <= 20 : v <= 500;
                    if (k == 1) {
                        good &= hot ? v < numbers[0] : v > numbers[0];
                    }
                    if (!good) {
                        return -1 - (q - 1);
                    }
                    numbers[k] = v;
                    p = q;
                    if (k < 2 && t.charAt(p) != "-*".charAt(k)) {
                        return -1 - p;
                    }
                }
                got.add(new Stream(hot, numbers[0], numbers[1], numbers[2]));
                if (t.charAt(p) == 999) {
                    break;
                }
                if (t.charAt(p) != ',' || got.size() == 10) {
                    return -1 - p;
                }
                p++;
            }
            all = got;
            changed();
            return all.size();
        }

        boolean isValue(int stream, int what, int v) {
            if (!isStream(stream) || what < 0 || what > 2) {
                return false;
            }
            return what == 2 ? v >= 1 && v <= 20 : v >= 0 && v <= 500;
        }

        long sets(int stream, int what, int v) {
            if (!isValue(stream, what, v)) {
                return -1;
            }
            Stream s = all.get(stream);
            Stream t = s.with(what, v);
            if (s.equals(t)) {
                return -2;
            }
            if (!t.sound()) {
                return -3;
            }
            all.set(stream, t);
            changed();
            return what == 0 ? s.from : what == 1 ? s.to : s.cap;
        }

        long gap(int v) {
            if (v < 0 || v > 60) {
                return -1;
            }
            if (v == gap) {
                return -2;
            }
            int was = gap;
            gap = v;
            changed();
            return was;
        }

        long splits(int stream, int v) {
            if (!isStream(stream) || v < 1 || v > all.get(stream).cap - 1) {
                return -1;
            }
            if (all.size() == 10) {
                return -2;
            }
            Stream s = all.get(stream);
            all.set(stream, s.with(2, s.cap - v));
            all.add(s.with(2, v));
            changed();
            return all.size() - 1;
        }

        long drops(int stream) {
            if (!isStream(stream)) {
                return -1;
            }
            all.remove(stream);
            changed();
            return all.size();
        }

        long stream(int i, int what) {
            if (!isStream(i) || what < 0 || what > 4) {
                return THROWN;
            }
            Stream s = all.get(i);
            return new int[] {s.hot ? 1 : 0, s.from, s.to, s.cap, s.cap * Math.abs(s.from - s.to)}[what];
        }

        long border(int k) {
            if (k < 0 || k >= flow.borders.size()) {
                return THROWN;
            }
            int at = flow.borders.get(k);
            if (k == flow.borders.size() - 1) {
                tell(flow.carry(at), 0, 0, 0);
                return at;
            }
            int next = flow.borders.get(k + 1);
            long surplus = flow.carry(next) - flow.carry(at);
            tell(flow.carry(at), surplus, flow.capacity(true, next), flow.capacity(false, next));
            return at;
        }

        long fuel() {
            tell(flow.cool(), flow.borders.size());
            return flow.fuel;
        }

        long pinch() {
            if (all.isEmpty()) {
                return -2;
            }
            tell();
            for (int b : flow.noughts) {
                row.add(1000L + b);
            }
            return row.get(0);
        }

        long carry(int t) {
            if (t < -60 || t > 500) {
                return -1;
            }
            List<Integer> b = flow.borders;
            if (b.isEmpty() || t > b.get(0) || t < b.get(b.size() - 1)) {
                return -2;
            }
            tell(flow.carry(t));
            return 0;
        }

        long above(boolean hot, int t) {
            if (t < 0 || t > 500) {
                return -1;
            }
            int many = 0;
            int heat = 0;
            for (Stream s : all) {
                if (s.hot == hot) {
                    many += s.low() <= t && t <= s.high() ? 1 : 0;
                    heat += s.cap * Math.max(0, s.high() - Math.max(t, s.low()));
                }
            }
            tell(many);
            return heat;
        }

        long level(boolean hot, int q) {
            if (q < 1) {
                return -1;
            }
            long sum = 0;
            for (int d = 499; d >= 0; d--) {
                int cap = 0;
                for (Stream s : all) {
                    cap += s.hot == hot && s.low() <= d && d < s.high() ? s.cap : 0;
                }
                if (sum + cap >= q) {
                    tell();
                    new Fraction((d + 1L) * cap - (q - sum), cap).addTo(row);
                    return 0;
                }
                sum += cap;
            }
            return -2;
        }

        long by(int g) {
            if (g < 0 || g > 60) {
                return -1;
            }
            if (all.isEmpty()) {
                return -2;
            }
            Flow f = new Flow(all, g);
            tell(f.cool(), 1000 + f.pinch());
            return f.fuel;
        }

        long widest(int f) {
            if (f < 0) {
                return -1;
            }
            for (int g = 60; g >= 0; g--) {
                int fuel = new Flow(all, g).fuel;
                if (fuel <= f) {
                    tell(fuel);
                    return g;
                }
            }
            return -2;
        }

        long fuelOf(List<Stream> streams) {
            Flow f = new Flow(streams, gap);
            tell(f.cool(), f.fuel - flow.fuel);
            return f.fuel;
        }

        long were(int stream, int what, int v) {
            if (!isValue(stream, what, v)) {
                return -1;
            }
            Stream t = all.get(stream).with(what, v);
            if (!t.sound()) {
                return -3;
            }
            List<Stream> streams = new ArrayList<>(all);
            streams.set(stream, t);
            return fuelOf(streams);
        }

        List<Stream> allBut(int stream) {
            List<Stream> streams = new ArrayList<>(all);
            streams.remove(stream);
            return streams;
        }

        long without(int stream) {
            return isStream(stream) ? fuelOf(allBut(stream)) : -1;
        }

        long dearest() {
            if (all.isEmpty()) {
                return -2;
            }
            int best = all.size() - 1;
            for (int i = all.size() - 1; i >= 0; i--) {
                if (new Flow(allBut(i), gap).fuel <= new Flow(allBut(best), gap).fuel) {
                    best = i;
                }
            }
            tell(new Flow(allBut(best), gap).fuel);
            return best;
        }

        int ownPinch(int i) {
            return flow.pinch() + (all.get(i).hot ? gap : 0);
        }

        /** NEAR, FAR, HEAT. */
        int[] part(int side, int i) {
            Stream s = all.get(i);
            int p = ownPinch(i);
            List<Integer> degrees = new ArrayList<>();
            for (int d = s.low(); d < s.high(); d++) {
                if (side == 0 ? d >= p : d < p) {
                    degrees.add(d);
                }
            }
            if (degrees.isEmpty()) {
                return new int[] {0, 0, 0};
            }
            int bottom = degrees.get(0);
            int top = degrees.get(degrees.size() - 1) + 1;
            int heat = s.cap * degrees.size();
            return side == 0 ? new int[] {bottom, top, heat} : new int[] {top, bottom, heat};
        }

        int heat(int side, int i) {
            return part(side, i)[2];
        }

        int rest(int side, int i) {
            int rest = heat(side, i);
            for (Match m : sides.get(side)) {
                rest -= m.hot == i || m.cold == i ? m.load : 0;
            }
            return rest;
        }

        boolean pairs(List<Integer> needy, List<Integer> others) {
            if (needy.isEmpty()) {
                return true;
            }
            for (int k = 0; k < others.size(); k++) {
                if (all.get(others.get(k)).cap >= all.get(needy.get(0)).cap) {
                    List<Integer> rest = new ArrayList<>(others);
                    rest.remove(k);
                    if (pairs(needy.subList(1, needy.size()), rest)) {
                        return true;
                    }
                }
            }
            return false;
        }

        long arrive(int side) {
            if (side != 0 && side != 1) {
                return -1;
            }
            List<Integer> hots = new ArrayList<>();
            List<Integer> colds = new ArrayList<>();
            for (int i = 0; i < all.size(); i++) {
                int[] part = part(side, i);
                if (part[2] > 0 && part[0] == ownPinch(i)) {
                    (all.get(i).hot ? hots : colds).add(i);
                }
            }
            List<Integer> needy = side == 0 ? hots : colds;
            List<Integer> others = side == 0 ? colds : hots;
            tell(colds.size(), needy.size() <= others.size() ? 1 : 0, pairs(needy, others) ? 1 : 0);
            return hots.size();
        }

        long range(int side, int i) {
            if (side < 0 || side > 1 || !isStream(i)) {
                return -1;
            }
            int[] part = part(side, i);
            tell(part[0], part[1], part[2], rest(side, i));
            return part[2] > 0 ? 1 : 0;
        }

        Fraction temperature(int side, int i, List<Match> matches, int upTo) {
            long sum = 0;
            for (int k = 0; k < upTo; k++) {
                Match m = matches.get(k);
                sum += m.hot == i || m.cold == i ? m.load : 0;
            }
            Fraction way = new Fraction(side == 0 ? sum : -sum, all.get(i).cap);
            return new Fraction(part(side, i)[0], 1).plus(way);
        }

        Fraction width(int side, List<Match> matches, int k, boolean atEnd) {
            Match m = matches.get(k);
            int upTo = atEnd ? k + 1 : k;
            return temperature(side, m.hot, matches, upTo).minus(temperature(side, m.cold, matches, upTo));
        }

        boolean meet(int side, int hot, int cold) {
            return (side == 0 || side == 1) && isStream(hot) && isStream(cold) && all.get(hot).hot
                    && !all.get(cold).hot && heat(side, hot) > 0 && heat(side, cold) > 0;
        }

        /** 0 or what joins() would answer, but for 24 matches. */
        int obstacle(int side, int hot, int cold, int load) {
            if (load > rest(side, hot) || load > rest(side, cold)) {
                return -3;
            }
            List<Match> then = new ArrayList<>(sides.get(side));
            then.add(new Match(hot, cold, load));
            if (width(side, then, then.size() - 1, false).below(gap)) {
                return -4;
            }
            return width(side, then, then.size() - 1, true).below(gap) ? -5 : 0;
        }

        long joins(int side, int hot, int cold, int load) {
            if (!meet(side, hot, cold) || load < 1) {
                return -1;
            }
            if (sides.get(side).size() == 24) {
                return -2;
            }
            int obstacle = obstacle(side, hot, cold, load);
            if (obstacle != 0) {
                return obstacle;
            }
            sides.get(side).add(new Match(hot, cold, load));
            tell(rest(side, hot), rest(side, cold));
            return sides.get(side).size() - 1;
        }

        /** Loads that can be joined are 1 to some number: begin is one width, end goes one way. */
        long most(int side, int hot, int cold) {
            if (!meet(side, hot, cold)) {
                return -1;
            }
            int good = 0;
            for (int step = 1 << 14; step > 0; step >>= 1) {
                if (obstacle(side, hot, cold, good + step) == 0) {
                    good += step;
                }
            }
            return good;
        }

        int restOf(int side, boolean hot) {
            int sum = 0;
            for (int i = 0; i < all.size(); i++) {
                sum += all.get(i).hot == hot ? rest(side, i) : 0;
            }
            return sum;
        }

        long ticks(int side) {
            if (side < 0 || side > 1) {
                return -1;
            }
            int came = 0;
            while (sides.get(side).size() < 24) {
                Match best = new Match(0, 0, 0);
                for (int h = 0; h < all.size(); h++) {
                    for (int c = 0; c < all.size(); c++) {
                        long v = most(side, h, c);
                        best = v > best.load ? new Match(h, c, (int) v) : best;
                    }
                }
                if (best.load == 0) {
                    break;
                }
                sides.get(side).add(best);
                came++;
            }
            tell(restOf(side, true), restOf(side, false));
            return came;
        }

        long match(int side, int i, int what) {
            if (!isMatch(side, i) || what < 0 || what > 2) {
                return THROWN;
            }
            Match m = sides.get(side).get(i);
            tell();
            width(side, sides.get(side), i, false).addTo(row);
            width(side, sides.get(side), i, true).addTo(row);
            return what == 0 ? m.hot : what == 1 ? m.cold : m.load;
        }

        long area(int side, int i) {
            if (!isMatch(side, i)) {
                return -1;
            }
            List<Match> matches = sides.get(side);
            Fraction f = width(side, matches, i, false).plus(width(side, matches, i, true));
            if (f.over == 0) {
                return -2;
            }
            long twice = 2L * matches.get(i).load * f.under;
            return twice / f.over + (twice % f.over == 0 ? 0 : 1);
        }

        long total() {
            long sum = 0;
            long lacking = 0;
            long best = -1;
            long most = -1;
            for (int side = 0; side < 2; side++) {
                for (int i = 0; i < sides.get(side).size(); i++) {
                    long v = area(side, i);
                    lacking += v == -2 ? 1 : 0;
                    sum += v == -2 ? 0 : v;
                    if (v != -2 && v > most) {
                        most = v;
                        best = 100 * side + i;
                    }
                }
            }
            tell(lacking, best);
            return sum;
        }

        /** Takes other matches if all keep; else the row has the first that would not. */
        boolean takes(int side, List<Match> then) {
            for (int k = 0; k < then.size(); k++) {
                if (width(side, then, k, false).below(gap) || width(side, then, k, true).below(gap)) {
                    tell(k);
                    return false;
                }
            }
            sides.get(side).clear();
            sides.get(side).addAll(then);
            return true;
        }

        long leaves(int side, int i) {
            if (!isMatch(side, i)) {
                return -1;
            }
            List<Match> then = new ArrayList<>(sides.get(side));
            then.remove(i);
            return takes(side, then) ? then.size() : -4;
        }

        long loads(int side, int i, int v) {
            if (!isMatch(side, i) || v < 1) {
                return -1;
            }
            Match m = sides.get(side).get(i);
            if (v == m.load) {
                return -2;
            }
            if (v > rest(side, m.hot) + m.load || v > rest(side, m.cold) + m.load) {
                return -3;
            }
            List<Match> then = new ArrayList<>(sides.get(side));
            then.set(i, new Match(m.hot, m.cold, v));
            return takes(side, then) ? m.load : -4;
        }

        long clears(int side) {
            if (side < 0 || side > 1) {
                return -1;
            }
            int had = sides.get(side).size();
            sides.get(side).clear();
            return had;
        }

        long left() {
            long colds = restOf(0, false) + restOf(1, false);
            tell(restOf(0, true) + restOf(1, true), colds - flow.fuel);
            return colds;
        }

        void flood(List<Match> matches, int stream, TreeSet<Integer> seen) {
            if (seen.add(stream)) {
                for (Match m : matches) {
                    if (m.hot == stream || m.cold == stream) {
                        flood(matches, m.hot, seen);
                        flood(matches, m.cold, seen);
                    }
                }
            }
        }

        long loops(int side) {
            if (side < 0 || side > 1) {
                return -1;
            }
            List<Match> matches = sides.get(side);
            TreeSet<Integer> seen = new TreeSet<>();
            int parts = 0;
            for (Match m : matches) {
                if (!seen.contains(m.hot)) {
                    parts++;
                    flood(matches, m.hot, seen);
                }
            }
            tell(matches.size(), seen.size(), parts);
            return matches.size() - seen.size() + parts;
        }

        /** Tries every way on from the last match of a row, by turns by its cold and its hot stream. */
        List<Integer> ring(List<Match> matches, List<Integer> ring, List<Integer> met, List<Integer> best) {
            boolean byCold = ring.size() % 2 == 1;
            Match last = matches.get(ring.get(ring.size() - 1));
            Match first = matches.get(ring.get(0));
            List<Integer> found = best;
            for (int k = 0; k < matches.size(); k++) {
                Match m = matches.get(k);
                boolean on = byCold ? m.cold == last.cold : m.hot == last.hot;
                if (!on || ring.contains(k)) {
                    continue;
                }
                List<Integer> longer = new ArrayList<>(ring);
                longer.add(k);
                int next = byCold ? m.hot : m.cold;
                if (byCold && next == first.hot) {
                    found = found == null || longer.size() < found.size() ? longer : found;
                } else if (!met.contains(next) && (found == null || longer.size() < found.size())) {
                    List<Integer> more = new ArrayList<>(met);
                    more.add(next);
                    found = ring(matches, longer, more, found);
                }
            }
            return found;
        }

        /** Ways are tried by the least numbers first, so the first one of the fewest is the one. */
        List<Integer> ring(int side, int i) {
            Match m = sides.get(side).get(i);
            return ring(sides.get(side), List.of(i), List.of(m.hot, m.cold), null);
        }

        long loop(int side, int i) {
            if (!isMatch(side, i)) {
                return -1;
            }
            List<Integer> ring = ring(side, i);
            if (ring == null) {
                return -2;
            }
            tell();
            for (int k : ring) {
                row.add((long) k);
            }
            return ring.size();
        }

        long breaks(int side, int i) {
            if (!isMatch(side, i)) {
                return -1;
            }
            List<Integer> ring = ring(side, i);
            if (ring == null) {
                return -2;
            }
            List<Match> then = new ArrayList<>(sides.get(side));
            int moved = then.get(i).load;
            for (int k = 0; k < ring.size(); k++) {
                Match m = then.get(ring.get(k));
                int load = k % 2 == 0 ? m.load - moved : m.load + moved;
                if (load < 0) {
                    tell(ring.get(k));
                    return -3;
                }
                then.set(ring.get(k), new Match(m.hot, m.cold, load));
            }
            then.removeIf(m -> m.load == 0);
            return takes(side, then) ? then.size() : -4;
        }

        long count(int what) {
            long bits = 0;
            long[] heat = new long[2];
            for (int i = 0; i < all.size(); i++) {
                Stream s = all.get(i);
                bits |= s.hot ? 1L << i : 0;
                heat[s.hot ? 0 : 1] += (long) s.cap * (s.high() - s.low());
            }
            long[] due = {all.size(), bits, gap, sides.get(0).size(), sides.get(1).size(), heat[0], heat[1],
                row.size(), text.length()};
            return what >= 0 && what < due.length ? due[what] : -1;
        }
    }

    // ---- the class

    private static long real(HeatPinch x, int op, int[] a) {
        switch (NAMES[op]) {
            case "sign": return x.sign(a[0]);
            case "end": return x.end(a[0]) ? 1 : 0;
            case "streams": return x.streams();
            case "sets": return x.sets(a[0], a[1], a[2]);
            case "gap": return x.gap(a[0]);
            case "splits": return x.splits(a[0], a[1]);
            case "drops": return x.drops(a[0]);
            case "stream": return x.stream(a[0], a[1]);
            case "border": return x.border(a[0]);
            case "fuel": return x.fuel();
            case "pinch": return x.pinch();
            case "carry": return x.carry(a[0]);
            case "above": return x.above(a[0] != 0, a[1]);
            case "level": return x.level(a[0] != 0, a[1]);
            case "by": return x.by(a[0]);
            case "widest": return x.widest(a[0]);
            case "were": return x.were(a[0], a[1], a[2]);
            case "without": return x.without(a[0]);
            case "dearest": return x.dearest();
            case "arrive": return x.arrive(a[0]);
            case "range": return x.range(a[0], a[1]);
            case "joins": return x.joins(a[0], a[1], a[2], a[3]);
            case "most": return x.most(a[0], a[1], a[2]);
            case "ticks": return x.ticks(a[0]);
            case "match": return x.match(a[0], a[1], a[2]);
            case "area": return x.area(a[0], a[1]);
            case "total": return x.total();
            case "leaves": return x.leaves(a[0], a[1]);
            case "loads": return x.loads(a[0], a[1], a[2]);
            case "clears": return x.clears(a[0]);
            case "left": return x.left();
            case "loops": return x.loops(a[0]);
            case "loop": return x.loop(a[0], a[1]);
            case "breaks": return x.breaks(a[0], a[1]);
            case "count": return x.count(a[0]);
            default: return x.row(a[0]);
        }
    }

    private static long realOrThrown(HeatPinch x, int op, int[] a) {
        try {
            return real(x, op, a);
        } catch (NoSuchElementException e) {
            return THROWN;
        }
    }

    // ---- runs

    private static final TreeMap<String, Integer> met = new TreeMap<>();
    private static int wrong = 0;

    private static void meet(int op, long answer) {
        String name = NAMES[op];
        String kind = answer == THROWN ? "throws" : answer < 0 && !name.equals("border") ? "" + answer : "good";
        if (name.equals("loop") && answer > 0) {
            met.merge("loop of " + answer, 1, Integer::sum);
        }
        met.merge(name + " " + (name.equals("streams") && answer < 0 ? "fault" : kind), 1, Integer::sum);
    }

    private static String tellMatches(Model m) {
        StringBuilder s = new StringBuilder();
        for (List<Match> side : m.sides) {
            s.append(side).append(' ');
        }
        return s.toString();
    }

    /** Whether the class and the model can be told apart; the class is asked by calls that keep the row. */
    private static String difference(HeatPinch x, Model m) {
        for (int w = -1; w <= 9; w++) {
            if (x.count(w) != m.count(w)) {
                return "count(" + w + ") is " + x.count(w) + ", due is " + m.count(w);
            }
        }
        for (int i = 0; i < m.row.size(); i++) {
            if (x.row(i) != m.row.get(i)) {
                return "row(" + i + ") is " + x.row(i) + ", due is " + m.row.get(i);
            }
        }
        for (int i = 0; i < m.all.size(); i++) {
            for (int w = 0; w < 5; w++) {
                if (x.stream(i, w) != m.stream(i, w)) {
                    return "stream(" + i + ", " + w + ") is " + x.stream(i, w);
                }
            }
        }
        return null;
    }

    private static boolean step(HeatPinch x, Model m, int run, int op, int... a) {
        String before = m.all + " gap " + m.gap + " " + tellMatches(m);
        long due = m.call(op, a);
        long got = realOrThrown(x, op, a);
        meet(op, due);
        String other = got == due ? difference(x, m) : "answered " + got + ", due is " + due;
        if (other != null) {
            wrong++;
            System.out.println("run " + run + ": " + NAMES[op] + Arrays.toString(a) + ": " + other + "; ahead: " + before);
        }
        return other == null;
    }

    private static int op(String name) {
        return Arrays.asList(NAMES).indexOf(name);
    }

    private static boolean put(HeatPinch x, Model m, int run, String text) {
        boolean good = step(x, m, run, op("end"), 0);
        for (int i = 0; good && i < text.length(); i += 4) {
            int v = 0;
            for (int k = i; k < i + 4; k++) {
                v = v << 8 | (k < text.length() ? text.charAt(k) : 0);
            }
            good = step(x, m, run, op("sign"), v);
        }
        return good && step(x, m, run, op("end"), Math.min(text.length(), 120)) && step(x, m, run, op("streams"));
    }

    private static String plantText(Random r) {
        int grid = new int[] {1, 5, 10, 50}[r.nextInt(4)];
        int most = new int[] {2, 5, 20}[r.nextInt(3)];
        int many = r.nextInt(4) == 0 ? r.nextInt(12) : 3 + r.nextInt(6);
        StringBuilder s = new StringBuilder();
        for (int i = 0; i < many; i++) {
            int a = r.nextInt(500 / grid + 1) * grid;
            int b = r.nextInt(500 / grid + 1) * grid;
            if (a == b) {
                b = a == 0 ? grid : a - grid;
            }
            s.append(i == 0 ? "" : ",").append(a > b ? 'h' : 'c').append(a).append('-').append(b);
            s.append('*').append(1 + r.nextInt(most));
        }
        return s.toString();
    }

    /** Streams of which most can be joined: hot ones lie high, cold ones low. */
    private static String meetingText(Random r) {
        int many = 4 + r.nextInt(7);
        int most = new int[] {1, 4, 20}[r.nextInt(3)];
        boolean above = r.nextBoolean();
        StringBuilder s = new StringBuilder();
        for (int i = 0; i < many; i++) {
            int low = r.nextInt(15) * 10;
            int high = 10 * (20 + r.nextInt(20));
            int middle = 10 * (15 + r.nextInt(5));
            boolean hot = i % 2 == 0;
            int top = hot ? high : above && r.nextInt(3) == 0 ? high : middle;
            int bottom = !hot ? low : r.nextInt(3) == 0 ? low : middle;
            s.append(i == 0 ? "" : ",").append(hot ? 'h' : 'c').append(hot ? top : bottom).append('-');
            s.append(hot ? bottom : top).append('*').append(1 + r.nextInt(most));
        }
        return s.length() > 120 ? "h100-0*3,c0-90*3" : s.toString();
    }

    private static String wrongText(Random r) {
        StringBuilder s = new StringBuilder(plantText(r));
        for (int k = 0; k < 1 + r.nextInt(2); k++) {
            char c = "hc0123456789-*,x/:".charAt(r.nextInt(18));
            int at = r.nextInt(s.length() + 1);
            int way = r.nextInt(3);
            if (way == 0 || at == s.length()) {
                s.insert(at, c);
            } else if (way == 1) {
                s.setCharAt(at, c);
            } else {
                s.deleteCharAt(at);
            }
        }
        return s.toString();
    }

    private static int any(Random r, int least, int greatest) {
        if (r.nextInt(40) == 0) {
            int[] odd = {Integer.MIN_VALUE, Integer.MAX_VALUE, -1, least - 1, greatest + 1, -2, 1 << 30};
            return odd[r.nextInt(odd.length)];
        }
        return least + r.nextInt(Math.max(1, greatest - least + 1));
    }

    private static int side(Random r) {
        return r.nextInt(8) == 0 ? any(r, -1, 3) : r.nextInt(2);
    }

    private static int[] arguments(Random r, Model m, String name) {
        int stream = any(r, 0, m.all.size() - 1);
        int what = any(r, 0, 2);
        int side = r.nextInt(10) == 0 ? side(r) : m.sides.get(0).size() > r.nextInt(2) * m.sides.get(1).size() ? 0 : 1;
        int matches = side == 0 || side == 1 ? m.sides.get(side).size() : 3;
        int match = any(r, 0, matches - 1);
        switch (name) {
            case "sign": return new int[] {r.nextInt()};
            case "end": return new int[] {any(r, 0, m.text.length() + 2)};
            case "sets": case "were": return new int[] {stream, what, what == 2 ? any(r, 1, 20) : near(r, m, stream)};
            case "gap": case "by": return new int[] {any(r, 0, r.nextBoolean() ? 60 : 10)};
            case "splits": return new int[] {stream, any(r, 1, 5)};
            case "drops": case "without": return new int[] {stream};
            case "stream": return new int[] {stream, any(r, 0, 4)};
            case "border": return new int[] {any(r, 0, m.flow.borders.size() - 1)};
            case "carry": return new int[] {near(r, m, stream) - r.nextInt(20)};
            case "above": return new int[] {r.nextInt(2), near(r, m, stream)};
            case "level": return new int[] {r.nextInt(2), any(r, 1, r.nextBoolean() ? 500 : 20000)};
            case "widest": return new int[] {any(r, 0, m.flow.fuel * 2)};
            case "arrive": case "ticks": case "clears": case "loops": return new int[] {side};
            case "range": return new int[] {side, stream};
            case "most": return new int[] {side, stream, any(r, 0, m.all.size() - 1)};
            case "joins": return joinArguments(r, m);
            case "match": return new int[] {side, match, what};
            case "area": case "leaves": case "loop": case "breaks": return new int[] {side, match};
            case "loads": return new int[] {side, match, any(r, 1, r.nextBoolean() ? 40 : 2000)};
            case "count": return new int[] {any(r, 0, 8)};
            case "row": return new int[] {any(r, 0, 4)};
            default: return new int[0];
        }
    }

    private static int near(Random r, Model m, int stream) {
        if (!m.isStream(stream) || r.nextInt(3) == 0) {
            return any(r, 0, 500);
        }
        Stream s = m.all.get(stream);
        return (r.nextBoolean() ? s.from : s.to) + r.nextInt(5) - 2;
    }

    /** Mostly two streams that can be joined, by the most, or one more, or little. */
    private static int[] joinArguments(Random r, Model m) {
        for (int k = 0; k < 60 && r.nextInt(60) != 0; k++) {
            int side = r.nextInt(2);
            int hot = any(r, 0, m.all.size() - 1);
            int cold = any(r, 0, m.all.size() - 1);
            long most = m.most(side, hot, cold);
            boolean again = m.sides.get(side).stream().anyMatch(t -> t.hot == hot && t.cold == cold);
            if (again && m.all.size() > 6 && r.nextInt(10) != 0) {
                continue;
            }
            if (most > 0 || most == 0 && r.nextInt(8) == 0) {
                int way = r.nextInt(6);
                int load = way == 0 ? (int) most + 1 : way == 1 ? (int) most : 1 + r.nextInt((int) most / (1 + way * way) + 1);
                return new int[] {side, hot, cold, load};
            }
        }
        return new int[] {side(r), any(r, 0, m.all.size() - 1), any(r, 0, m.all.size() - 1), any(r, 0, 100)};
    }

    private static String pick(Random r, int mood) {
        String[] matching = {"joins", "joins", "joins", "joins", "joins", "joins", "loop", "loop", "breaks", "leaves", "loads",
            "match", "area", "loops", "most", "range"};
        String[] changing = {"sets", "gap", "splits", "drops", "streams", "clears", "ticks"};
        String[] joining = {"joins", "joins", "joins", "loop", "loads", "match"};
        if (mood == 3 && r.nextInt(3) != 0) {
            return joining[r.nextInt(joining.length)];
        }
        if (mood != 0 && r.nextInt(4) != 0) {
            return matching[r.nextInt(matching.length)];
        }
        String name = NAMES[r.nextInt(NAMES.length)];
        boolean changes = Arrays.asList(changing).contains(name);
        return mood != 0 && changes && r.nextInt(8) != 0 ? "total" : name;
    }

    private static boolean run(int run) {
        Random r = new Random(run * 0x9E3779B97F4A7C15L);
        HeatPinch x = new HeatPinch();
        Model m = new Model();
        int mood = r.nextInt(4);
        for (int k = 0; k < CALLS; k++) {
            if (k == 0 || r.nextInt(mood == 0 ? 12 : 100) == 0) {
                String text = mood > 1 ? meetingText(r) : mood == 0 && r.nextInt(3) == 0 ? wrongText(r) : plantText(r);
                if (!put(x, m, run, text)) {
                    return false;
                }
                if (r.nextInt(3) == 0 && !step(x, m, run, op("gap"), r.nextInt(4))) {
                    return false;
                }
            }
            String name = pick(r, mood);
            if (!step(x, m, run, op(name), arguments(r, m, name))) {
                return false;
            }
        }
        return true;
    }

    /** A run without such an answer would test too little. */
    private static void wasMet(String... kinds) {
        for (String kind : kinds) {
            if (met.getOrDefault(kind, 0) < 5) {
                wrong++;
                System.out.println("too seldom met: " + kind + ": " + met.getOrDefault(kind, 0));
            }
        }
    }

    public static void main(String[] args) {
        int runs = args.length > 0 ? Integer.parseInt(args[0]) : RUNS;
        for (int run = 0; run < runs && wrong < 20; run++) {
            run(run);
        }
        for (String name : NAMES) {
            wasMet(name + " good");
        }
        wasMet("sign -1", "streams fault", "sets -1", "sets -2", "sets -3", "gap -1", "gap -2", "splits -1", "splits -2",
                "drops -1", "stream throws", "border throws", "pinch -2", "carry -1", "carry -2", "above -1", "level -1",
                "level -2", "by -1", "by -2", "widest -1", "widest -2", "were -1", "were -3", "without -1", "dearest -2",
                "arrive -1", "range -1", "joins -1", "joins -2", "joins -3", "joins -4", "joins -5", "most -1", "ticks -1",
                "match throws", "area -1", "area -2", "leaves -1", "leaves -4", "loads -1", "loads -2", "loads -3", "loads -4",
                "clears -1", "loops -1", "loop -1", "loop -2", "breaks -1", "breaks -2", "breaks -3", "breaks -4",
                "count -1", "row throws", "loop of 2", "loop of 4", "loop of 6");
        if (args.length > 0) {
            System.out.println(met);
        }
        System.out.println(wrong == 0 ? "the class answers as the model" : wrong + " faults");
        if (wrong != 0) {
            System.exit(1);
        }
    }
}
