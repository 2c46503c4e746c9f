import java.math.BigInteger;
import java.util.ArrayDeque;
import java.util.ArrayList;
import java.util.Deque;
import java.util.List;
import java.util.regex.Matcher;
import java.util.regex.Pattern;

/**
 * The document once more, written another way on purpose: every row is tried, texts are cut by patterns, the bodies of
 * asks are methods of classes, and an act is undone by bringing back the whole city from ahead of it.
 */
final class Model {
    private static final int NONE = -1000000, BAD = -1000001, STATE = -1000002, FULL = -1000003, FAULTS = -1000100;

    /** The asks, as classes lend and tell their bodies. */
    abstract static class Gesture {
        final List<Integer> trace;
        final int number, inches, takes;

        Gesture(List<Integer> trace, int number, int inches, int takes) {
            this.trace = trace;
            this.number = number;
            this.inches = inches;
            this.takes = takes;
        }

        int size() {
            trace.add(10);
            return takes;
        }

        int mark() {
            trace.add(20);
            return number;
        }
    }

    static class Wave extends Gesture {
        Wave(List<Integer> trace, int number, int inches, int takes) {
            super(trace, number, inches, takes);
        }

        @Override int size() {
            trace.add(11);
            return super.size() + mark();
        }

        @Override int mark() {
            trace.add(21);
            return super.mark() + inches;
        }
    }

    static final class Nod extends Wave {
        Nod(List<Integer> trace, int number, int inches, int takes) {
            super(trace, number, inches, takes);
        }

        @Override int size() {
            trace.add(12);
            return -super.size();
        }

        @Override int mark() {
            trace.add(24);
            return super.mark() * 2;
        }
    }

    static final class Bow extends Wave {
        Bow(List<Integer> trace, int number, int inches, int takes) {
            super(trace, number, inches, takes);
        }

        @Override int mark() {
            trace.add(22);
            return super.mark() - 1000;
        }
    }

    static class Wink extends Gesture {
        Wink(List<Integer> trace, int number, int inches, int takes) {
            super(trace, number, inches, takes);
        }

        @Override int size() {
            trace.add(13);
            return super.size() - 100;
        }

        @Override int mark() {
            trace.add(23);
            return super.mark() - size();
        }
    }

    static final class Shrug extends Wink {
        Shrug(List<Integer> trace, int number, int inches, int takes) {
            super(trace, number, inches, takes);
        }

        @Override int size() {
            trace.add(14);
            return super.size() * 2;
        }
    }

    /** A city by numbers: streets as DIM, STRICT, KNOWN; gestures as SORT, INCHES, MEANS, TAKES, MADE. */
    record City(int rate, int paid, List<int[]> streets, List<int[]> gestures) {
        City twin() {
            return new City(rate, paid, twins(streets), twins(gestures));
        }

        City paying(int sum) {
            return new City(rate, sum, streets, gestures);
        }

        private static List<int[]> twins(List<int[]> rows) {
            List<int[]> all = new ArrayList<>();
            rows.forEach(row -> all.add(row.clone()));
            return all;
        }
    }

    private final int[][] rows = new int[8][];
    private final int[] lanes = new int[8];
    private final StringBuilder tape = new StringBuilder();
    private final City[] images = new City[2];
    private final Deque<City> before = new ArrayDeque<>();
    private List<Integer> trace = new ArrayList<>();
    private City city = null;
    private int status = 0, fault = 0;

    int call(String name, int[] p) {
        switch (name) {
            case "row": return row(p[0], p[1], p[2]);
            case "set": return set(p[0], p[1], p[2]);
            case "copy": return copy(p[0], p[1], p[2], p[3], p[4]);
            case "drop": return drop(p[0]);
            case "feed": return feed(p[0]);
            case "city": return city();
            case "fault": return fault;
            case "make": return make(p[0], p[1]);
            case "dim": return dim(p[0], p[1]);
            case "train": return train(p[0], p[1]);
            case "know": return know(p[0], p[1]);
            case "undo": return undo();
            case "gesture": return gesture(p[0], p[1]);
            case "street": return street(p[0], p[1]);
            case "duty": return noGesture(p[0]) || noStreet(p[1]) ? BAD : duty(p[0], p[1]);
            case "tell": return tell(p[0], p[1], p[2], p[3], p[4]);
            case "shut": return shut(p[0]);
            case "quick": return quick(p[0], p[1], p[2]);
            case "thread": return thread(p[0], p[1], p[2]);
            case "inches": return inches(p[0], p[1], p[2], p[3]);
            case "sorts": return sorts(p[0], p[1], p[2], p[3]);
            case "saved": return saved(p[0]);
            case "worst": return worst(p[0], p[1]);
            case "tremble": return tremble(p[0], p[1], p[2], p[3], p[4], p[5]);
            case "image": return image(p[0]);
            case "restore": return restore(p[0]);
            case "kind": return noGesture(p[0]) ? BAD : sort(p[0]);
            case "as": return as(p[0], p[1]);
            case "ask": return ask(p[0], p[1]);
            case "trace": return p[0] < 0 || p[0] >= Math.min(16, trace.size()) ? NONE : trace.get(p[0]);
            case "count": return count(p[0]);
            case "status": return status;
            default: throw new IllegalArgumentException(name);
        }
    }

    private int finding(int number) {
        status = number;
        return number == 0 ? 0 : -1000010 - number;
    }

    private static boolean out(int number, int least, int most) {
        return number < least || number > most;
    }

    private boolean noRow(int row) {
        return out(row, 0, 7);
    }

    private boolean noStreet(int street) {
        return city == null || out(street, 0, city.streets.size() - 1);
    }

    private boolean noGesture(int gesture) {
        return city == null || out(gesture, 0, city.gestures.size() - 1);
    }

    private static boolean beyond(int[] row, long i, long n) {
        return i < 0 || n < 0 || i + n > row.length;
    }

    private int row(int row, int lane, int n) {
        if (noRow(row) || out(lane, 0, 2) || n > 40) return BAD;
        if (n < 0) return finding(4);
        rows[row] = new int[n];
        lanes[row] = lane;
        finding(0);
        return n;
    }

    private int set(int row, int i, int v) {
        if (noRow(row)) return BAD;
        if (rows[row] == null) return finding(1);
        if (beyond(rows[row], i, 1)) return finding(2);
        int unused = new int[] {24, 16, 0}[lanes[row]];
        rows[row][i] = v << unused >> unused;
        finding(0);
        return rows[row][i];
    }

    private int copy(int a, int i, int b, int j, int n) {
        if (noRow(a) || noRow(b)) return BAD;
        if (rows[a] == null || rows[b] == null) return finding(1);
        if (lanes[a] != lanes[b]) return finding(5);
        if (beyond(rows[a], i, n) || beyond(rows[b], j, n)) return finding(2);
        int[] was = rows[a].clone();
        for (int k = 0; k < n; k++) rows[b][j + k] = was[i + k];
        finding(0);
        return n;
    }

    private int drop(int row) {
        if (noRow(row)) return BAD;
        if (rows[row] == null) return finding(1);
        int had = rows[row].length;
        rows[row] = null;
        finding(0);
        return had;
    }

    private int feed(int letter) {
        if (out(letter, 0, 255)) return BAD;
        if (tape.length() == 120) return FULL;
        return tape.append((char) letter).length();
    }

    private static final Pattern TOKEN = Pattern.compile("[0-9]+|.", Pattern.DOTALL);

    /** What may stand next, by the shape of a part: letters of its own, n for a number. */
    private int city() {
        List<String> tokens = new ArrayList<>();
        List<Integer> places = new ArrayList<>();
        Matcher matcher = TOKEN.matcher(tape);
        while (matcher.find()) {
            tokens.add(matcher.group());
            places.add(matcher.start());
        }
        places.add(tape.length());
        tape.setLength(0);
        int[][] bounds = null;
        List<int[]> streets = new ArrayList<>(), gestures = new ArrayList<>();
        int rate = 0, at = 0, part = 0;
        int[] read = null;
        for (;; at++) {
            String token = at < tokens.size() ? tokens.get(at) : "";
            int number = 0;
            if (bounds == null) {
                if (token.isEmpty() && rate > 0) break;
                if (rate == 0) {
                    if (!token.equals("d")) number = 1;
                    bounds = new int[][] {{1, 9}};
                    read = new int[1];
                } else if (token.equals("r") && gestures.isEmpty()) {
                    if (streets.size() == 7) number = 3;
                    bounds = new int[][] {{0, 30}, {0, 9}};
                    read = new int[3];
                } else if (token.length() == 1 && "wnbks".contains(token)) {
                    if (gestures.size() == 6) number = 3;
                    bounds = new int[][] {{1, 30}, {0, 3}, {1, 9}};
                    read = new int[] {0, 0, 0, 0, 1 + "wnbks".indexOf(token)};
                } else {
                    number = 1;
                }
                part = 0;
            } else if (part % 2 == 0) {
                if (!token.matches("[0-9]{1,2}")) number = 1;
                else if (out(Integer.parseInt(token), bounds[part / 2][0], bounds[part / 2][1])) number = 2;
                else read[part / 2] = Integer.parseInt(token);
                part++;
            } else {
                boolean last = part / 2 == bounds.length - 1;
                if (!token.equals(last ? ";" : ",")) number = 1;
                part++;
                if (last) {
                    if (bounds.length == 1) rate = read[0];
                    if (bounds.length == 2) streets.add(read);
                    if (bounds.length == 3) gestures.add(new int[] {read[4], read[0], read[1], read[2], 0});
                    bounds = null;
                }
            }
            if (number != 0) {
                fault = number;
                return FAULTS - places.get(at);
            }
        }
        city = new City(rate, 0, streets, gestures);
        before.clear();
        return gestures.size();
    }

    private void act() {
        before.addLast(city.twin());
        if (before.size() > 24) before.removeFirst();
    }

    private int sort(int gesture) {
        return city.gestures.get(gesture)[0];
    }

    private int duty(int sort, int inches, int[] street) {
        int wave = city.rate * inches + inches * street[1] / 10;
        int duty = switch (sort) {
            case 1 -> wave;
            case 2 -> wave / 2;
            case 3 -> inches > 10 ? wave + (inches - 10) * city.rate : wave;
            case 4 -> 1;
            default -> street[1] < 5 ? 1 : wave;
        };
        return street[2] == 1 ? duty / 2 : duty;
    }

    private int duty(int gesture, int street) {
        return duty(sort(gesture), city.gestures.get(gesture)[1], city.streets.get(street));
    }

    private boolean seen(int gesture, int street) {
        int more = sort(gesture) >= 4 ? 5 : 0;
        return city.gestures.get(gesture)[1] + more >= city.streets.get(street)[0];
    }

    private int make(int gesture, int street) {
        if (noGesture(gesture) || noStreet(street)) return BAD;
        if (!seen(gesture, street)) return STATE;
        int sum = city.paid + duty(gesture, street);
        if (sum > 99999) return FULL;
        act();
        city = city.paying(sum);
        city.gestures.get(gesture)[4]++;
        return sum;
    }

    private int dim(int street, int v) {
        if (noStreet(street) || out(v, 0, 30)) return BAD;
        act();
        int was = city.streets.get(street)[0];
        city.streets.get(street)[0] = v;
        return was;
    }

    private int train(int gesture, int n) {
        if (noGesture(gesture) || out(n, 1, 29)) return BAD;
        if (city.gestures.get(gesture)[1] <= n) return STATE;
        act();
        return city.gestures.get(gesture)[1] -= n;
    }

    private int know(int street, int is) {
        if (noStreet(street) || out(is, 0, 1)) return BAD;
        if (city.streets.get(street)[2] == is) return STATE;
        act();
        city.streets.get(street)[2] = is;
        int bits = 0;
        for (int s = 0; s < city.streets.size(); s++) bits += city.streets.get(s)[2] << s;
        return bits;
    }

    private int undo() {
        if (before.isEmpty()) return STATE;
        city = before.removeLast();
        return before.size();
    }

    private int gesture(int gesture, int what) {
        if (noGesture(gesture) || out(what, 0, 4)) return BAD;
        if (what == 3) {
            int bits = 0;
            for (int s = 0; s < city.streets.size(); s++) if (seen(gesture, s)) bits += 1 << s;
            return bits;
        }
        return city.gestures.get(gesture)[what == 4 ? 4 : what + 1];
    }

    private int street(int street, int what) {
        if (noStreet(street) || out(what, 0, 3)) return BAD;
        if (what == 3) {
            int bits = 0;
            for (int g = 0; g < city.gestures.size(); g++) if (seen(g, street)) bits += 1 << g;
            return bits;
        }
        return city.streets.get(street)[what];
    }

    private boolean tells(int gesture, int means, int street) {
        return city.gestures.get(gesture)[2] == means && seen(gesture, street);
    }

    /** All rows of gestures through streets a to b, in the order of their numbers. */
    private List<int[]> tellings(int means, int a, int b) {
        List<int[]> all = new ArrayList<>();
        all.add(new int[0]);
        for (int s = a; s <= b; s++) {
            List<int[]> longer = new ArrayList<>();
            for (int[] one : all) {
                for (int g = 0; g < city.gestures.size(); g++) {
                    if (tells(g, means, s)) {
                        int[] next = java.util.Arrays.copyOf(one, one.length + 1);
                        next[one.length] = g;
                        longer.add(next);
                    }
                }
            }
            all = longer;
        }
        return all;
    }

    private int taken(int[] telling) {
        int sum = 0;
        for (int g : telling) sum += city.gestures.get(g)[3];
        return sum;
    }

    private int tell(int means, int a, int b, int t, int k) {
        if (out(means, 0, 3) || noStreet(a) || noStreet(b) || b < a || out(t, 0, 99) || out(k, -1, 6)) return BAD;
        int[] best = null;
        int least = 0;
        for (int[] telling : tellings(means, a, b)) {
            int sum = 0;
            for (int i = 0; i < telling.length; i++) sum += duty(telling[i], a + i);
            if (taken(telling) <= t && (best == null || sum < least)) {
                best = telling;
                least = sum;
            }
        }
        if (best == null || k >= best.length) return NONE;
        return k == -1 ? least : best[k];
    }

    private int shut(int means) {
        if (city == null) return STATE;
        if (out(means, 0, 3)) return BAD;
        int bits = 0;
        for (int s = 0; s < city.streets.size(); s++) if (tellings(means, s, s).isEmpty()) bits += 1 << s;
        return bits;
    }

    private int quick(int means, int a, int b) {
        if (out(means, 0, 3) || noStreet(a) || noStreet(b) || b < a) return BAD;
        int least = NONE;
        for (int[] telling : tellings(means, a, b)) {
            if (least == NONE || taken(telling) < least) least = taken(telling);
        }
        return least;
    }

    private int pairs(int row, int i, int n) {
        if (noRow(row) || out(n, 1, 12)) return BAD;
        if (rows[row] == null) return finding(1);
        if (beyond(rows[row], i, 2L * n)) return finding(2);
        for (int p = 0; p < n; p++) if (noStreet(rows[row][i + 2 * p])) return BAD;
        return finding(0);
    }

    private boolean owes(int sort, int inches, int row, int i, int n) {
        boolean so = true;
        for (int p = i; p < i + 2 * n; p += 2) so &= duty(sort, inches, city.streets.get(rows[row][p])) == rows[row][p + 1];
        return so;
    }

    private int thread(int row, int i, int n) {
        if (city == null) return STATE;
        int refusal = pairs(row, i, n);
        if (refusal != 0) return refusal;
        int bits = 0;
        for (int g = 0; g < city.gestures.size(); g++) {
            boolean so = owes(sort(g), city.gestures.get(g)[1], row, i, n);
            for (int p = 0; p < n; p++) so &= seen(g, rows[row][i + 2 * p]);
            if (so) bits += 1 << g;
        }
        return bits;
    }

    private int inches(int gesture, int row, int i, int n) {
        int refusal = noGesture(gesture) ? BAD : pairs(row, i, n);
        if (refusal != 0) return refusal;
        int bits = 0;
        for (int bit = 0; bit < 30; bit++) if (owes(sort(gesture), bit + 1, row, i, n)) bits += 1 << bit;
        return bits;
    }

    private int sorts(int gesture, int row, int i, int n) {
        int refusal = noGesture(gesture) ? BAD : pairs(row, i, n);
        if (refusal != 0) return refusal;
        int bits = 0;
        for (int sort = 1; sort <= 5; sort++) {
            if (owes(sort, city.gestures.get(gesture)[1], row, i, n)) bits += 1 << sort;
        }
        return bits;
    }

    private int saved(int gesture) {
        if (noGesture(gesture)) return BAD;
        int less = 0;
        for (int s = 0; s < city.streets.size(); s++) {
            int[] known = city.streets.get(s).clone();
            known[2] = 1;
            less += duty(gesture, s) - duty(sort(gesture), city.gestures.get(gesture)[1], known);
        }
        return less;
    }

    private int worst(int gesture, int what) {
        if (noGesture(gesture) || out(what, 0, 1)) return BAD;
        int which = NONE, most = NONE;
        for (int s = city.streets.size() - 1; s >= 0; s--) {
            if (duty(gesture, s) >= most) {
                which = s;
                most = duty(gesture, s);
            }
        }
        return what == 0 ? which : most;
    }

    private int tremble(int gesture, int a, int b, int v, int c, int what) {
        if (noGesture(gesture) || noStreet(a) || noStreet(b) || b < a) return BAD;
        if (out(v, 0, 9999) || out(c, 0, 10) || out(what, 0, 1)) return BAD;
        int streets = b - a + 1;
        BigInteger above = BigInteger.ZERO, below = BigInteger.TEN.pow(streets);
        for (int longer = 0; longer < 1 << streets; longer++) {
            int sum = 0;
            for (int s = 0; s < streets; s++) {
                int inches = city.gestures.get(gesture)[1] + (longer >> s & 1);
                sum += duty(sort(gesture), inches, city.streets.get(a + s));
            }
            int times = Integer.bitCount(longer);
            BigInteger weight = BigInteger.valueOf(c).pow(times).multiply(BigInteger.valueOf(10 - c).pow(streets - times));
            if (sum <= v) above = above.add(weight);
        }
        BigInteger shared = above.gcd(below);
        return (what == 0 ? above : below).divide(shared).intValueExact();
    }

    private int image(int k) {
        if (out(k, 0, 1)) return BAD;
        if (city == null) return STATE;
        images[k] = city.twin();
        return 1;
    }

    private int restore(int k) {
        if (out(k, 0, 1)) return BAD;
        if (images[k] == null) return STATE;
        city = images[k].twin();
        before.clear();
        return 1;
    }

    private Gesture asked(int gesture) {
        int[] g = city.gestures.get(gesture);
        return switch (g[0]) {
            case 1 -> new Wave(trace, gesture, g[1], g[3]);
            case 2 -> new Nod(trace, gesture, g[1], g[3]);
            case 3 -> new Bow(trace, gesture, g[1], g[3]);
            case 4 -> new Wink(trace, gesture, g[1], g[3]);
            default -> new Shrug(trace, gesture, g[1], g[3]);
        };
    }

    private int as(int gesture, int kind) {
        if (noGesture(gesture) || out(kind, 0, 5)) return BAD;
        List<Class<?>> kinds = List.of(Gesture.class, Wave.class, Nod.class, Bow.class, Wink.class, Shrug.class);
        if (!kinds.get(kind).isInstance(asked(gesture))) return finding(3);
        finding(0);
        return gesture;
    }

    private int ask(int gesture, int what) {
        if (noGesture(gesture) || out(what, 0, 1)) return BAD;
        trace = new ArrayList<>();
        return what == 0 ? asked(gesture).size() : asked(gesture).mark();
    }

    private int count(int what) {
        if (out(what, 0, 7)) return BAD;
        if (what == 0) return (int) java.util.Arrays.stream(rows).filter(r -> r != null).count();
        if (what == 6) return before.size();
        if (what == 7) return tape.length();
        if (city == null) return 0;
        return switch (what) {
            case 1 -> city.streets.size();
            case 2 -> city.gestures.size();
            case 3 -> city.paid;
            case 4 -> city.rate;
            default -> (int) city.streets.stream().filter(s -> s[2] == 1).count();
        };
    }
}
