import java.math.BigInteger;
import java.util.ArrayList;
import java.util.List;
import java.util.Random;
import java.util.TreeMap;

/**
 * Goes through many runs of calls, drawn from a fixed seed, on a ColdHouse and on a slow model of the
 * document with numbers without bounds, and prints every call whose answers differ. It also asks
 * that the rare cases of the document came up at all, so that it can't pass by missing them.
 */
public final class ModelTest {
    private static final long UNSAID = Long.MIN_VALUE;
    private static final int OBJECTS = 6000;
    // Behind the last of these a status() may come, and an object answers for 512 in all.
    private static final int CALLS = 511;

    private static int passed = 0;
    private static int failed = 0;
    private static final TreeMap<String, Integer> seen = new TreeMap<>();

    private final Random random;
    private final ColdHouse house = new ColdHouse();
    private final Model model = new Model();
    private int calls = 0;
    private boolean wrong = false;

    private ModelTest(long seed) {
        random = new Random(seed);
    }

    public static void main(String[] args) {
        for (int seed = 0; seed < OBJECTS; seed++) {
            ModelTest one = new ModelTest(seed);
            try {
                one.go();
            } catch (Ended e) {
                // Its calls are used up, or an answer was wrong.
            }
            if (one.wrong) {
                System.out.println("that was seed " + seed);
                failed++;
            } else {
                passed++;
            }
        }
        for (String rare : new String[] {"run through", "run stopped", "stopped too fine", "round with share",
                "total not told", "order not told", "best found", "best none", "joined told", "joined share too great",
                "best over untold", "work below 0", "share 0"}) {
            if (seen.getOrDefault(rare, 0) == 0) {
                System.out.println("never came up: " + rare);
                failed++;
            }
        }
        System.out.println("came up: " + seen);
        System.out.println(passed + " passed, " + failed + " failed");
        if (failed != 0) {
            System.exit(1);
        }
    }

    private static final class Ended extends RuntimeException {
        private static final long serialVersionUID = 1L;
    }

    private static void note(String what) {
        seen.merge(what, 1, Integer::sum);
    }

    // ---- the calls

    private void go() {
        int shape = random.nextInt(4);
        if (shape == 3) {
            narrowStuff();
        } else {
            int pressures = random.nextInt(4) == 0 ? random.nextInt(12) : 2 + random.nextInt(4);
            for (int p = 0; p < pressures; p++) {
                tableOf(shape == 0 ? anyTable() : likelyTable(p, shape == 2));
            }
        }
        while (true) {
            switch (random.nextInt(12)) {
                case 0: case 1: case 2: case 3:
                    buildRing();
                    useRing();
                    break;
                case 4:
                    if (random.nextBoolean()) {
                        buildColdRing();
                    } else {
                        buildFineRing();
                    }
                    break;
                case 5: readRun(); break;
                case 6: anyCall(); break;
                case 7: best(part(), part()); break;
                case 8: image(small(3)); break;
                case 9: back(small(3)); break;
                case 10: set(part(), number(), number()); break;
                default: startRun();
            }
        }
    }

    private void useRing() {
        switch (random.nextInt(4)) {
            case 0: best(turnable(), turnable()); break;
            case 1: image(small(2)); break;
            case 2: readRun(); break;
            default:
                int i = small(2);
                int k = small(2);
                joined(i, k, 0);
                joined(i, k, 1);
        }
        allTotals();
    }

    /** One that is WARMED by nothing. */
    private void buildColdRing() {
        int there = model.pressures.size();
        if (there < 2) {
            return;
        }
        int low = random.nextInt(there - 1);
        int high = low + 1 + random.nextInt(there - 1 - low);
        clear();
        part(0, high, 50 + random.nextInt(51));
        part(2, 0, 0);
        part(1, low, 0);
        run(low, model.pressures.get(high)[0][0], 1);
        allTotals();
        useRing();
    }

    /** Presses in stages, each with a lower number of its own, so that the sums have great ones. */
    private void buildFineRing() {
        int there = model.pressures.size();
        if (there < 3) {
            return;
        }
        clear();
        for (int p = 1; p < there && p < 5; p++) {
            part(0, p, 80 + random.nextInt(21));
            if (random.nextInt(3) != 0) {
                part(2, 2, 1 + random.nextInt(25));
            }
        }
        part(2, 0, 0);
        part(1, 0, 0);
        part(2, 1, 0);
        run(0, model.pressures.get(0)[1][0], 1);
        allTotals();
        image(random.nextInt(3));
        joined(random.nextInt(3), random.nextInt(3), 0);
        best(turnable(), turnable());
        allTotals();
    }

    private int turnable() {
        for (int tries = 0; tries < 20 && !model.parts.isEmpty(); tries++) {
            int i = random.nextInt(model.parts.size());
            if (model.parts.get(i)[0] <= 1) {
                return i;
            }
        }
        return part();
    }

    /**
     * A press that takes the lower number of the HEAT that comes out of the one that goes, by a
     * slope that it divides, and goes out in another stretch than that of the same ORDER: the only
     * way for two ORDERS to have so great a common lower number that their difference isn't told.
     */
    private void narrowStuff() {
        int[] wide = {977, 983, 991, 997};
        int heatAhead = wide[random.nextInt(wide.length)];
        int orderAhead = 90 + random.nextInt(21);
        int heatBehind = 600 + random.nextInt(200);
        int orderBehind = 101 + 2 * random.nextInt(2);
        int share = 96 + random.nextInt(3);
        tableOf(new int[] {0, 490, 0, heatAhead, 490 + orderAhead, 0});
        tableOf(new int[] {0, 500 - orderBehind, 20, heatBehind, 500, 20, heatBehind + 150 + random.nextInt(50), 600, 60});
        long slope = Math.abs((share - 100L) * heatAhead * orderBehind + 100L * orderAhead * heatBehind);
        part(0, 1, share);
        for (long divisor = 1; divisor < 60 && calls < CALLS / 2; divisor++) {
            long low = slope / divisor;
            if (low <= 10_000_000 && slope % divisor == 0) {
                for (int n = 0; n < 6; n++) {
                    run(0, (long) ((75 + 35 * random.nextDouble()) * low), low);
                    did(0, 2);
                    did(0, 3);
                }
            }
        }
    }

    private int[] anyTable() {
        int n = 2 + random.nextInt(7);
        int[] t = new int[3 * n];
        int heat = random.nextInt(300);
        int order = random.nextInt(300);
        int warmth = random.nextInt(300) - 200;
        for (int i = 0; i < n; i++) {
            t[3 * i] = heat;
            t[3 * i + 1] = order;
            t[3 * i + 2] = warmth;
            heat += 1 + random.nextInt(i == 0 ? 400 : 120);
            order += 1 + random.nextInt(i == 0 ? 400 : 120);
            warmth += i == 0 ? 0 : 1 + random.nextInt(150);
        }
        if (random.nextInt(4) == 0) {
            t[random.nextInt(t.length)] += random.nextInt(400) - 200;
        }
        return t;
    }

    /** Stuff like one of the world: presses and throats mostly find their ORDER and HEAT. */
    private int[] likelyTable(int p, boolean round) {
        int j = round ? 1 : 7;
        int n = random.nextInt(4) == 0 ? 2 : 3 + random.nextInt(3);
        int[] t = new int[3 * n];
        t[0] = 100 + 40 * p + random.nextInt(j) * 3;
        t[1] = 90 + 30 * p + random.nextInt(j) * 2;
        t[2] = 20 * p - 60 + random.nextInt(j);
        t[3] = 500 + 10 * p + random.nextInt(j) * 2;
        t[4] = 480 - 10 * p + random.nextInt(j);
        t[5] = t[2];
        for (int i = 2; i < n; i++) {
            t[3 * i] = t[3 * i - 3] + 60 + random.nextInt(60 + 20 * j);
            t[3 * i + 1] = t[3 * i - 2] + 40 + random.nextInt(40 + j);
            t[3 * i + 2] = t[3 * i - 1] + 30 + random.nextInt(50);
        }
        return t;
    }

    private void tableOf(int[] t) {
        int s = random.nextInt(4);
        sheet(s, 2, Math.min(40, t.length + random.nextInt(3)));
        for (int i = 0; i < t.length; i++) {
            write(s, i, t[i]);
        }
        pressure(s, t.length / 3);
    }

    private void buildRing() {
        if (random.nextInt(5) != 0) {
            clear();
        }
        int have = Math.max(1, model.pressures.size());
        int low = random.nextInt(have);
        int high = random.nextInt(have);
        int between = random.nextInt(have);
        if (random.nextInt(3) != 0) {
            low = Math.min(low, Math.min(between, high));
            high = Math.max(high, between);
        }
        part(0, between, random.nextInt(4) == 0 ? 1 + random.nextInt(100) : 60 + random.nextInt(41));
        for (int n = random.nextInt(4); n > 0; n--) {
            anyPart();
        }
        if (random.nextBoolean()) {
            part(2, 2, random.nextInt(20));
        }
        if (random.nextBoolean()) {
            part(0, high, 100 - random.nextInt(40));
        }
        part(2, 0, 0);
        part(1, low, 5);
        boolean dry = random.nextBoolean();
        int warmer = random.nextInt(40);
        part(2, dry ? 1 : 2, warmer);
        if (random.nextInt(6) == 0) {
            part(3, 10 * (random.nextInt(11) - 5), 100);
            part(2, 1, 0);
            dry = true;
        }
        int there = model.pressures.size();
        if (low < there && (dry || warmer == 0)) {
            run(low, model.pressures.get(low)[1][0], 1);
        } else if (low < there) {
            Fraction h = model.heatOfWarmth(low, warmer);
            if (h != null) {
                run(low, h.up.longValueExact(), h.low.longValueExact());
            }
        }
        allTotals();
    }

    private void anyPart() {
        switch (random.nextInt(5)) {
            case 0: part(0, random.nextInt(10), 1 + random.nextInt(100)); break;
            case 1: part(1, random.nextInt(5), 0); break;
            case 2: part(2, random.nextInt(3), random.nextInt(120)); break;
            case 3: part(3, random.nextInt(120) - 60, 50 + random.nextInt(51)); break;
            default: part(2, 2, random.nextInt(30));
        }
    }

    private void startRun() {
        int there = model.pressures.size();
        if (there == 0 || random.nextInt(10) == 0) {
            run(small(10), random.nextInt(1000), random.nextInt(3));
            return;
        }
        int p = random.nextInt(there);
        int[][] points = model.pressures.get(p);
        long low = lowerNumber();
        long least = points[0][0] * low;
        long most = points[points.length - 1][0] * low;
        long up = least + (long) (random.nextDouble() * (most - least));
        switch (random.nextInt(12)) {
            case 0: up = least; break;
            case 1: up = most; break;
            case 2: up = least - 1; break;
            case 3: up = most + 1; break;
            default:
        }
        for (int what = -1; what < 7 && random.nextBoolean(); what++) {
            state(p, up, low, what);
        }
        run(p, up, low);
        allTotals();
    }

    private long lowerNumber() {
        switch (random.nextInt(5)) {
            case 0: return 1 + random.nextInt(4);
            case 1: return 1 + random.nextInt(1000);
            case 2: return 9_999_900 + random.nextInt(101);
            case 3: return random.nextInt(20) == 0 ? 10_000_001L : 1 + random.nextInt(10_000_000);
            default: return 1 << random.nextInt(23);
        }
    }

    private void allTotals() {
        for (int what = 0; what < 8; what++) {
            total(what);
        }
        round();
        count(2);
    }

    private void readRun() {
        int i = small(13);
        for (int what = -1; what < 8; what++) {
            behind(i, what);
        }
        for (int what = -1; what < 5; what++) {
            did(i, what);
        }
        allTotals();
    }

    private void anyCall() {
        switch (random.nextInt(12)) {
            case 0: sheet(small(4), small(3), number()); break;
            case 1: write(small(4), small(40), number()); break;
            case 2: pressure(small(4), small(9)); break;
            case 3: point(small(10), small(8), small(3)); break;
            case 4: part(small(4), number(), number()); break;
            case 5: set(part(), number(), number()); break;
            case 6: clear(); break;
            case 7: total(small(8)); break;
            case 8: round(); break;
            case 9: count(small(4)); break;
            case 10: tableOf(anyTable()); break;
            default: state(small(10), random.nextInt(1000), random.nextInt(4), small(6));
        }
    }

    /** Mostly from 0 to most, now and then beyond. */
    private int small(int most) {
        return random.nextInt(25) == 0 ? random.nextInt() >> random.nextInt(32) : random.nextInt(most + 1) - random.nextInt(8) / 7;
    }

    private int part() {
        return small(Math.max(1, model.parts.size()));
    }

    private int number() {
        switch (random.nextInt(6)) {
            case 0: return random.nextInt();
            case 1: return random.nextInt(2400) - 1200;
            case 2: return random.nextInt(120);
            default: return random.nextInt(11);
        }
    }

    // ---- each call on both

    private void same(String call, long got, long want) {
        calls++;
        compare(call, got, want);
        if (random.nextInt(4) == 0 || got < 0 && got > -7) {
            calls++;
            compare("status() after " + call, house.status(), model.status);
        }
        if (wrong || calls >= CALLS) {
            throw new Ended();
        }
    }

    private void compare(String call, long got, long want) {
        if (got != want) {
            wrong = true;
            System.out.println("call " + calls + ": " + call + " answered " + got + ", due is " + want);
        }
    }

    private static String call(String name, long... numbers) {
        StringBuilder text = new StringBuilder(name).append('(');
        for (int i = 0; i < numbers.length; i++) {
            text.append(i == 0 ? "" : ", ").append(numbers[i]);
        }
        return text.append(')').toString();
    }

    private void sheet(int s, int sort, int n) { same(call("sheet", s, sort, n), house.sheet(s, sort, n), model.sheet(s, sort, n)); }
    private void write(int s, int i, int v) { same(call("write", s, i, v), house.write(s, i, v), model.write(s, i, v)); }
    private void pressure(int s, int n) { same(call("pressure", s, n), house.pressure(s, n), model.pressure(s, n)); }
    private void point(int p, int i, int what) { same(call("point", p, i, what), house.point(p, i, what), model.point(p, i, what)); }
    private void state(int p, long up, long low, int what) { same(call("state", p, up, low, what), house.state(p, up, low, what), model.state(p, up, low, what)); }
    private void part(int kind, int a, int b) { same(call("part", kind, a, b), house.part(kind, a, b), model.part(kind, a, b)); }
    private void set(int i, int a, int b) { same(call("set", i, a, b), house.set(i, a, b), model.set(i, a, b)); }
    private void clear() { same("clear()", house.clear(), model.clear()); }
    private void run(int p, long up, long low) { same(call("run", p, up, low), house.run(p, up, low), model.run(p, up, low)); }
    private void behind(int i, int what) { same(call("behind", i, what), house.behind(i, what), model.behind(i, what)); }
    private void did(int i, int what) { same(call("did", i, what), house.did(i, what), model.did(i, what)); }
    private void total(int what) { same(call("total", what), house.total(what), model.total(what)); }
    private void round() { same("round()", house.round(), model.round()); }
    private void best(int i, int k) { same(call("best", i, k), house.best(i, k), model.best(i, k)); }
    private void image(int k) { same(call("image", k), house.image(k), model.image(k)); }
    private void back(int k) { same(call("back", k), house.back(k), model.back(k)); }
    private void joined(int i, int k, int what) { same(call("joined", i, k, what), house.joined(i, k, what), model.joined(i, k, what)); }
    private void count(int what) { same(call("count", what), house.count(what), model.count(what)); }

    // ---- the model

    private static final class Fraction implements Comparable<Fraction> {
        final BigInteger up;
        final BigInteger low;

        Fraction(BigInteger up, BigInteger low) {
            BigInteger g = up.gcd(low);
            if (low.signum() < 0) {
                g = g.negate();
            }
            this.up = up.divide(g);
            this.low = low.divide(g);
        }

        static Fraction of(long n) { return new Fraction(BigInteger.valueOf(n), BigInteger.ONE); }
        static Fraction of(long up, long low) { return new Fraction(BigInteger.valueOf(up), BigInteger.valueOf(low)); }
        Fraction plus(Fraction o) { return new Fraction(up.multiply(o.low).add(o.up.multiply(low)), low.multiply(o.low)); }
        Fraction minus(Fraction o) { return plus(new Fraction(o.up.negate(), o.low)); }
        Fraction times(Fraction o) { return new Fraction(up.multiply(o.up), low.multiply(o.low)); }
        Fraction by(Fraction o) { return new Fraction(up.multiply(o.low), low.multiply(o.up)); }
        int sign() { return up.signum(); }
        public int compareTo(Fraction o) { return minus(o).sign(); }
        long side(int which) { return (which == 0 ? up : low).longValueExact(); }
    }

    private record Place(int pressure, Fraction heat) {
        boolean same(Place o) { return pressure == o.pressure && heat.compareTo(o.heat) == 0; }
    }

    private static final class Course {
        final List<Place> places = new ArrayList<>();
        final List<Integer> kinds = new ArrayList<>();
        boolean stopped;
        int steps() { return places.size() - 1; }
        boolean round() { return !stopped && places.get(0).same(places.get(steps())); }
    }

    private static final class Kept {
        final List<int[]> parts;
        final Place beginning;

        Kept(List<int[]> parts, Place beginning) {
            this.parts = parts;
            this.beginning = beginning;
        }
    }

    private static final class Model {
        final int[][] rows = new int[4][];
        final int[] sorts = new int[4];
        final List<int[][]> pressures = new ArrayList<>();
        List<int[]> parts = new ArrayList<>();
        final Kept[] images = new Kept[3];
        Course latest;
        int status;

        int end(int answer) {
            status = Math.min(0, answer);
            return answer;
        }

        int sheet(int s, int sort, int n) {
            if (s < 0 || s > 3 || sort < 0 || sort > 2 || n > 40) {
                return end(-1);
            }
            rows[s] = n < 0 ? null : new int[n];
            sorts[s] = sort;
            return end(n < 0 ? -4 : n);
        }

        int write(int s, int i, int v) {
            if (s < 0 || s > 3) {
                return end(-1);
            }
            if (rows[s] == null) {
                return end(-2);
            }
            if (i < 0 || i >= rows[s].length) {
                return end(-3);
            }
            int bits = 32 - (8 << sorts[s]);
            rows[s][i] = v << bits >> bits;
            return end(0);
        }

        int pressure(int s, int n) {
            if (s < 0 || s > 3 || n < 2 || n > 8) {
                return end(-1);
            }
            if (rows[s] == null) {
                return end(-2);
            }
            if (rows[s].length < 3 * n) {
                return end(-3);
            }
            int[][] t = new int[n][3];
            for (int i = 0; i < 3 * n; i++) {
                t[i / 3][i % 3] = rows[s][i];
            }
            boolean good = t[0][2] == t[1][2];
            for (int i = 0; i < n; i++) {
                good &= t[i][0] >= 0 && t[i][0] <= 1000 && t[i][1] >= 0 && t[i][1] <= 1000;
                good &= t[i][2] >= -200 && t[i][2] <= 1000;
                good &= i == 0 || t[i][0] > t[i - 1][0] && t[i][1] > t[i - 1][1];
                good &= i < 2 || t[i][2] > t[i - 1][2];
            }
            if (!good) {
                return end(-1);
            }
            if (pressures.size() == 10) {
                return end(-5);
            }
            pressures.add(t);
            return end(pressures.size() - 1);
        }

        boolean there(int p) { return p >= 0 && p < pressures.size(); }

        int point(int p, int i, int what) {
            if (there(p) && i == -1 && what == 0) {
                return pressures.get(p).length;
            }
            if (!there(p) || i < 0 || i >= pressures.get(p).length || what < 0 || what > 2) {
                return -1000;
            }
            return pressures.get(p)[i][what];
        }

        Fraction read(int p, int from, int to, int first, Fraction at) {
            int[][] t = pressures.get(p);
            for (int i = first; i + 1 < t.length; i++) {
                Fraction a = Fraction.of(t[i][from]);
                Fraction b = Fraction.of(t[i + 1][from]);
                if (at.compareTo(a) >= 0 && at.compareTo(b) <= 0) {
                    Fraction slope = Fraction.of(t[i + 1][to] - t[i][to]).by(b.minus(a));
                    return Fraction.of(t[i][to]).plus(at.minus(a).times(slope));
                }
            }
            return null;
        }

        boolean holds(int p, Fraction h) {
            int[][] t = pressures.get(p);
            return h.compareTo(Fraction.of(t[0][0])) >= 0 && h.compareTo(Fraction.of(t[t.length - 1][0])) <= 0;
        }

        Fraction wet(int p, Fraction h) {
            int[][] t = pressures.get(p);
            Fraction share = Fraction.of(t[1][0]).minus(h).by(Fraction.of(t[1][0] - t[0][0]));
            return share.sign() < 0 ? Fraction.of(0) : share;
        }

        Fraction heatOfWarmth(int p, int more) {
            int[][] t = pressures.get(p);
            return more == 0 ? Fraction.of(t[1][0]) : read(p, 2, 0, 1, Fraction.of(t[1][2] + more));
        }

        long state(int p, long up, long low, int what) {
            if (!there(p) || low < 1 || low > 10_000_000 || !holds(p, Fraction.of(up, low)) || what < 0 || what > 5) {
                return UNSAID;
            }
            Fraction h = Fraction.of(up, low);
            Fraction answer = what < 2 ? read(p, 0, 1, 0, h) : what < 4 ? read(p, 0, 2, 0, h) : wet(p, h);
            return answer.side(what % 2);
        }

        static boolean in(int v, int least, int most) { return v >= least && v <= most; }

        static boolean good(int kind, int a, int b) {
            return kind == 0 && in(a, 0, 9) && in(b, 1, 100)
                    || kind == 1 && in(a, 0, 9)
                    || kind == 2 && (a == 0 || a == 1 || a == 2 && in(b, 0, 1000))
                    || kind == 3 && in(a, -1000, 1000) && in(b, 0, 100);
        }

        int part(int kind, int a, int b) {
            if (!good(kind, a, b)) {
                return end(-1);
            }
            if (parts.size() == 12) {
                return end(-5);
            }
            parts.add(new int[] {kind, a, b});
            return end(parts.size() - 1);
        }

        int set(int i, int a, int b) {
            if (i < 0 || i >= parts.size()) {
                return end(-2);
            }
            if (!good(parts.get(i)[0], a, b)) {
                return end(-1);
            }
            parts.set(i, new int[] {parts.get(i)[0], a, b});
            return end(0);
        }

        int clear() {
            int n = parts.size();
            parts = new ArrayList<>();
            return n;
        }

        Place step(int[] part, Place in) {
            int p = in.pressure;
            Fraction h = in.heat;
            switch (part[0]) {
                case 0:
                    if (!there(part[1]) || part[1] <= p) {
                        return null;
                    }
                    Fraction ideal = read(part[1], 1, 0, 0, read(p, 0, 1, 0, h));
                    if (ideal == null) {
                        return null;
                    }
                    return new Place(part[1], h.plus(ideal.minus(h).times(Fraction.of(100, part[2]))));
                case 1:
                    return there(part[1]) && part[1] < p ? new Place(part[1], h) : null;
                case 2:
                    Fraction to = part[1] < 2 ? Fraction.of(pressures.get(p)[part[1]][0]) : heatOfWarmth(p, part[2]);
                    return to == null ? null : new Place(p, to);
                default:
                    Fraction out = h.plus(Fraction.of(part[1]));
                    return wet(p, out).compareTo(Fraction.of(part[2], 100)) <= 0 ? new Place(p, out) : null;
            }
        }

        Course course(List<int[]> ring, Place beginning) {
            Course c = new Course();
            c.places.add(beginning);
            for (int[] part : ring) {
                Place out = step(part, c.places.get(c.steps()));
                if (out == null || !holds(out.pressure, out.heat)) {
                    c.stopped = true;
                    break;
                }
                if (out.heat.low.compareTo(BigInteger.valueOf(10_000_000)) > 0) {
                    note("stopped too fine");
                    c.stopped = true;
                    break;
                }
                c.places.add(out);
                c.kinds.add(part[0]);
            }
            note(c.stopped ? "run stopped" : "run through");
            return c;
        }

        int run(int p, long up, long low) {
            if (low < 1 || low > 10_000_000) {
                return end(-1);
            }
            if (!there(p)) {
                return end(-2);
            }
            if (!holds(p, Fraction.of(up, low))) {
                return end(-1);
            }
            latest = course(parts, new Place(p, Fraction.of(up, low)));
            return end(latest.steps());
        }

        long behind(int i, int what) {
            if (latest == null || i < 0 || i > latest.steps() || what < 0 || what > 6) {
                return UNSAID;
            }
            Place at = latest.places.get(i);
            if (what == 0) {
                return at.pressure;
            }
            Fraction f = what < 3 ? at.heat : read(at.pressure, 0, what < 5 ? 1 : 2, 0, at.heat);
            return f.side((what + 1) % 2);
        }

        static BigInteger lcm(BigInteger a, BigInteger b) { return a.divide(a.gcd(b)).multiply(b); }

        long did(int i, int what) {
            if (latest == null || i < 0 || i >= latest.steps() || what < 0 || what > 3) {
                return UNSAID;
            }
            Place a = latest.places.get(i);
            Place b = latest.places.get(i + 1);
            if (what < 2) {
                return b.heat.minus(a.heat).side(what);
            }
            if (latest.kinds.get(i) > 1) {
                return UNSAID;
            }
            Fraction from = read(a.pressure, 0, 1, 0, a.heat);
            Fraction to = read(b.pressure, 0, 1, 0, b.heat);
            if (lcm(from.low, to.low).compareTo(BigInteger.TEN.pow(15)) > 0) {
                note("order not told");
                return UNSAID;
            }
            return to.minus(from).side(what - 2);
        }

        /** WORK, WARMED, COOLED, SHARE (null without); null, where none is told. */
        Fraction[] totals(Course c) {
            if (c == null || c.stopped) {
                return null;
            }
            BigInteger all = BigInteger.ONE;
            for (Place p : c.places) {
                all = lcm(all, p.heat.low);
            }
            if (all.compareTo(BigInteger.TEN.pow(12)) > 0) {
                note("total not told");
                return null;
            }
            Fraction[] t = {Fraction.of(0), Fraction.of(0), Fraction.of(0), null};
            for (int i = 0; i < c.steps(); i++) {
                Fraction more = c.places.get(i + 1).heat.minus(c.places.get(i).heat);
                if (c.kinds.get(i) == 0) {
                    t[0] = t[0].plus(more);
                } else if (c.kinds.get(i) != 1 && more.sign() > 0) {
                    t[1] = t[1].plus(more);
                } else if (c.kinds.get(i) != 1) {
                    t[2] = t[2].minus(more);
                }
            }
            if (t[0].sign() < 0) {
                note("work below 0");
            }
            if (c.round() && t[0].sign() > 0) {
                t[3] = t[1].by(t[0]);
                note(t[3].sign() == 0 ? "share 0" : "round with share");
            }
            return t;
        }

        long total(int what) {
            Fraction[] t = totals(latest);
            return t == null || what < 0 || what > 7 || t[what / 2] == null ? UNSAID : t[what / 2].side(what % 2);
        }

        int round() { return latest == null ? -1 : latest.round() ? 1 : 0; }

        int best(int i, int k) {
            if (i < 0 || k < 0 || i >= parts.size() || k >= parts.size() || parts.get(i)[0] > 1 || parts.get(k)[0] > 1) {
                return end(-2);
            }
            if (latest == null) {
                return end(-6);
            }
            int found = -1;
            Fraction most = null;
            for (int p = 0; p < pressures.size(); p++) {
                Course c = course(turned(i, k, p), latest.places.get(0));
                Fraction[] t = totals(c);
                if (t == null && c.round()) {
                    note("best over untold");
                }
                if (t != null && t[3] != null && (most == null || t[3].compareTo(most) > 0)) {
                    most = t[3];
                    found = p;
                }
            }
            if (found < 0) {
                note("best none");
                return end(-6);
            }
            note("best found");
            parts = turned(i, k, found);
            latest = course(parts, latest.places.get(0));
            return end(found);
        }

        List<int[]> turned(int i, int k, int p) {
            List<int[]> ring = new ArrayList<>();
            for (int n = 0; n < parts.size(); n++) {
                int[] part = parts.get(n).clone();
                part[1] = n == i || n == k ? p : part[1];
                ring.add(part);
            }
            return ring;
        }

        int image(int k) {
            if (k < 0 || k > 2) {
                return end(-1);
            }
            if (latest == null) {
                return end(-6);
            }
            images[k] = new Kept(new ArrayList<>(parts), latest.places.get(0));
            return end(0);
        }

        int back(int k) {
            if (k < 0 || k > 2) {
                return end(-1);
            }
            if (images[k] == null) {
                return end(-6);
            }
            parts = new ArrayList<>(images[k].parts);
            latest = course(parts, images[k].beginning);
            return end(latest.steps());
        }

        Fraction shareOf(int k) {
            if (k < 0 || k > 2 || images[k] == null) {
                return null;
            }
            Fraction[] t = totals(course(images[k].parts, images[k].beginning));
            return t == null ? null : t[3];
        }

        long joined(int i, int k, int what) {
            Fraction s = shareOf(i);
            Fraction t = shareOf(k);
            if (s == null || t == null || what < 0 || what > 1) {
                return UNSAID;
            }
            BigInteger most = s.up.max(s.low).max(t.up).max(t.low);
            if (most.compareTo(BigInteger.valueOf(1_000_000_000)) > 0) {
                note("joined share too great");
                return UNSAID;
            }
            note("joined told");
            return s.times(t).by(s.plus(t).plus(Fraction.of(1))).side(what);
        }

        int count(int what) {
            switch (what) {
                case 0: return pressures.size();
                case 1: return parts.size();
                case 2: return latest == null ? -1 : latest.steps();
                case 3:
                    int n = 0;
                    for (int[] row : rows) {
                        n += row == null ? 0 : 1;
                    }
                    return n;
                default: return -1;
            }
        }
    }
}
