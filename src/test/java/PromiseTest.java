/**
 * The promises one by one, with answers worked out by hand from the document: ordinary inputs, the
 * edges that it names, and wrong inputs.
 */
public final class PromiseTest {
    private static final long UNSAID = Long.MIN_VALUE;
    private static final int[] COLD = {100, 100, 0, 500, 500, 0, 700, 600, 100};
    private static final int[] WARM = {200, 150, 50, 600, 480, 50, 900, 630, 200};

    private static int passed = 0;
    private static int failed = 0;
    private static int promise = 0;

    private PromiseTest() {
    }

    private static void due(String call, long got, long want) {
        if (got == want) {
            passed++;
            return;
        }
        failed++;
        System.out.println("promise " + promise + ": " + call + " answered " + got + ", due is " + want);
    }

    public static void main(String[] args) {
        Runnable[] all = {PromiseTest::newObject, PromiseTest::sheet, PromiseTest::write, PromiseTest::pressure,
            PromiseTest::point, PromiseTest::state, PromiseTest::part, PromiseTest::set, PromiseTest::clear,
            PromiseTest::run, PromiseTest::behind, PromiseTest::did, PromiseTest::total, PromiseTest::round,
            PromiseTest::best, PromiseTest::image, PromiseTest::back, PromiseTest::joined, PromiseTest::count,
            PromiseTest::status};
        for (Runnable one : all) {
            promise++;
            one.run();
        }
        System.out.println(passed + " passed, " + failed + " failed");
        if (failed != 0) {
            System.exit(1);
        }
    }

    // ---- benches

    private static int table(ColdHouse x, int... numbers) {
        return table(x, 2, numbers);
    }

    private static int table(ColdHouse x, int sort, int[] numbers) {
        x.sheet(3, sort, numbers.length);
        for (int i = 0; i < numbers.length; i++) {
            x.write(3, i, numbers[i]);
        }
        return x.pressure(3, numbers.length / 3);
    }

    private static ColdHouse bench(int[]... tables) {
        ColdHouse x = new ColdHouse();
        for (int[] t : tables) {
            table(x, t);
        }
        return x;
    }

    /** PRESS, COIL to boiling, THROAT, COIL to dry: from 500 at PRESSURE 0 it comes ROUND with SHARE 15/7. */
    private static ColdHouse ringBench(int share) {
        ColdHouse x = bench(COLD, WARM);
        x.part(0, 1, share);
        x.part(2, 0, 0);
        x.part(1, 0, 0);
        x.part(2, 1, 0);
        return x;
    }

    // ---- promises

    private static void newObject() {
        ColdHouse x = new ColdHouse();
        due("count(0)", x.count(0), 0);
        due("count(1)", x.count(1), 0);
        due("count(2)", x.count(2), -1);
        due("count(3)", x.count(3), 0);
        due("status()", x.status(), 0);
        due("round()", x.round(), ColdHouse.NONE);
        due("total(0)", x.total(0), ColdHouse.UNSAID);
        due("behind(0, 0)", x.behind(0, 0), UNSAID);
        due("did(0, 0)", x.did(0, 0), UNSAID);
        due("joined(0, 0, 0)", x.joined(0, 0, 0), UNSAID);
        due("point(0, -1, 0)", x.point(0, -1, 0), -1000);
        due("clear()", x.clear(), 0);
        for (int s = 0; s < 4; s++) {
            due("write", x.write(s, 0, 1), -2);
        }
        for (int k = 0; k < 3; k++) {
            due("back", x.back(k), -6);
            due("image", x.image(k), -6);
        }
        due("NONE", ColdHouse.NONE, -1);
        due("UNSAID", ColdHouse.UNSAID, UNSAID);
    }

    private static void sheet() {
        ColdHouse x = new ColdHouse();
        due("sheet(-1, 0, 1)", x.sheet(-1, 0, 1), -1);
        due("sheet(4, 0, 1)", x.sheet(4, 0, 1), -1);
        due("sheet(0, -1, 1)", x.sheet(0, -1, 1), -1);
        due("sheet(0, 3, 1)", x.sheet(0, 3, 1), -1);
        due("sheet(0, 0, 41)", x.sheet(0, 0, 41), -1);
        due("sheet(0, 0, greatest)", x.sheet(0, 0, Integer.MAX_VALUE), -1);
        due("count(3)", x.count(3), 0);
        due("sheet(0, 0, 40)", x.sheet(0, 0, 40), 40);
        due("sheet(3, 2, 0)", x.sheet(3, 2, 0), 0);
        due("count(3)", x.count(3), 2);
        due("write(0, 39, 1)", x.write(0, 39, 1), 0);
        due("write(3, 0, 1)", x.write(3, 0, 1), -3);
        due("sheet(0, 3, -1): first what can't be", x.sheet(0, 3, -1), -1);
        due("count(3)", x.count(3), 2);
        due("sheet(0, 0, -1)", x.sheet(0, 0, -1), -4);
        due("count(3): it is missing then", x.count(3), 1);
        due("write(0, 0, 1)", x.write(0, 0, 1), -2);
        due("sheet(0, 0, least)", x.sheet(0, 0, Integer.MIN_VALUE), -4);
        // Made anew, all its numbers are 0: no such row can be a PRESSURE.
        ColdHouse y = bench(COLD);
        due("pressure(3, 3)", y.pressure(3, 3), 1);
        due("sheet(3, 2, 9)", y.sheet(3, 2, 9), 9);
        due("pressure(3, 3)", y.pressure(3, 3), -1);
        y.write(3, 3, 1);
        y.write(3, 4, 1);
        due("pressure(3, 2)", y.pressure(3, 2), 2);
        due("point(2, 0, 0)", y.point(2, 0, 0), 0);
        due("point(2, 1, 2)", y.point(2, 1, 2), 0);
    }

    private static void write() {
        ColdHouse x = new ColdHouse();
        due("write(-1, 0, 0)", x.write(-1, 0, 0), -1);
        due("write(4, 0, 0)", x.write(4, 0, 0), -1);
        due("write(2, -1, 0): missing ahead of place", x.write(2, -1, 0), -2);
        x.sheet(2, 0, 6);
        due("write(2, -1, 0)", x.write(2, -1, 0), -3);
        due("write(2, 6, 0)", x.write(2, 6, 0), -3);
        due("write(2, 5, 0)", x.write(2, 5, 0), 0);
        // As bytes: 256 + 10, -256 + 20, 128 .. 255 are 10, 20, below 0.
        int[] asByte = {266, -236, 206, 300, 127 - 512, 206};
        due("table of bytes", table(x, 0, asByte), 0);
        due("HEAT", x.point(0, 0, 0), 10);
        due("ORDER", x.point(0, 0, 1), 20);
        due("WARMTH", x.point(0, 0, 2), -50);
        due("HEAT", x.point(0, 1, 0), 44);
        due("ORDER", x.point(0, 1, 1), 127);
        due("a byte 128 is below 0", table(x, 0, new int[] {10, 20, 0, 128, 127, 0}), -1);
        int[] asShort = {65536 + 266, -65536 + 3, 65536 - 200, 1000, 131072 + 1000, -200};
        due("table of shorts", table(x, 1, asShort), 1);
        due("HEAT", x.point(1, 0, 0), 266);
        due("ORDER", x.point(1, 0, 1), 3);
        due("WARMTH", x.point(1, 0, 2), -200);
        due("ORDER", x.point(1, 1, 1), 1000);
        due("an int keeps all bits", table(x, 2, new int[] {65536 + 10, 20, 0, 500, 500, 0}), -1);
    }

    private static void pressure() {
        ColdHouse x = new ColdHouse();
        due("pressure(-1, 2)", x.pressure(-1, 2), -1);
        due("pressure(4, 2)", x.pressure(4, 2), -1);
        due("pressure(0, 1)", x.pressure(0, 1), -1);
        due("pressure(0, 9)", x.pressure(0, 9), -1);
        due("pressure(0, 2)", x.pressure(0, 2), -2);
        x.sheet(0, 2, 23);
        due("pressure(0, 8)", x.pressure(0, 8), -3);
        due("pressure(0, 7): all 0", x.pressure(0, 7), -1);
        due("HEAT below 0", table(x, -1, 0, 0, 10, 10, 0), -1);
        due("HEAT above 1000", table(x, 0, 0, 0, 1001, 10, 0), -1);
        due("ORDER below 0", table(x, 0, -1, 0, 10, 10, 0), -1);
        due("ORDER above 1000", table(x, 0, 0, 0, 10, 1001, 0), -1);
        due("WARMTH below -200", table(x, 0, 0, -201, 10, 10, -201), -1);
        due("WARMTH above 1000", table(x, 0, 0, 1001, 10, 10, 1001), -1);
        due("HEAT does not rise", table(x, 10, 0, 0, 10, 10, 0), -1);
        due("ORDER does not rise", table(x, 0, 10, 0, 10, 10, 0), -1);
        due("WARMTH of POINT 1 is another", table(x, 0, 0, 0, 10, 10, 1), -1);
        due("WARMTH does not rise behind POINT 1", table(x, 0, 0, 5, 10, 10, 5, 20, 20, 5), -1);
        due("HEAT of the last falls", table(x, 0, 0, 5, 10, 10, 5, 20, 20, 6, 19, 30, 7), -1);
        due("ORDER of the last falls", table(x, 0, 0, 5, 10, 10, 5, 20, 20, 6, 30, 20, 7), -1);
        due("count(0)", x.count(0), 0);
        due("the widest", table(x, 0, 0, -200, 1, 1, -200, 1000, 1000, 1000), 0);
        due("WARMTH 1000", table(x, 0, 0, 1000, 1000, 1000, 1000), 1);
        due("eight", table(x, 0, 0, 0, 1, 1, 0, 2, 2, 1, 3, 3, 2, 4, 4, 3, 5, 5, 4, 6, 6, 5, 7, 7, 6), 2);
        // Places behind the POINTS are not looked at.
        x.sheet(0, 2, 40);
        x.write(0, 3, 7);
        x.write(0, 4, 7);
        x.write(0, 6, -5);
        due("pressure(0, 2)", x.pressure(0, 2), 3);
        for (int p = 4; p < 10; p++) {
            due("pressure(0, 2)", x.pressure(0, 2), p);
        }
        due("pressure(0, 2): no room", x.pressure(0, 2), -5);
        due("pressure(0, 3): what can't be ahead of no room", x.pressure(0, 3), -1);
        due("pressure(1, 2): missing ahead of no room", x.pressure(1, 2), -2);
        due("count(0)", x.count(0), 10);
        // The SHEET may be another then.
        x.write(0, 3, 9);
        due("point(9, 1, 0)", x.point(9, 1, 0), 7);
    }

    private static void point() {
        ColdHouse x = bench(COLD, WARM);
        for (int i = 0; i < 9; i++) {
            due("point(1, " + i / 3 + ", " + i % 3 + ")", x.point(1, i / 3, i % 3), WARM[i]);
        }
        due("point(0, -1, 0)", x.point(0, -1, 0), 3);
        due("point(0, -1, 1)", x.point(0, -1, 1), -1000);
        due("point(0, -2, 0)", x.point(0, -2, 0), -1000);
        due("point(0, 3, 0)", x.point(0, 3, 0), -1000);
        due("point(0, 0, -1)", x.point(0, 0, -1), -1000);
        due("point(0, 0, 3)", x.point(0, 0, 3), -1000);
        due("point(-1, 0, 0)", x.point(-1, 0, 0), -1000);
        due("point(2, 0, 0)", x.point(2, 0, 0), -1000);
        due("point(2, -1, 0)", x.point(2, -1, 0), -1000);
        due("point(10, 0, 0)", x.point(10, 0, 0), -1000);
    }

    private static void state() {
        ColdHouse x = bench(COLD, WARM, new int[] {0, 0, -200, 10, 3, -200, 20, 7, -100});
        due("ORDER", x.state(1, 700, 1, 0), 530);
        due("ORDER", x.state(1, 700, 1, 1), 1);
        due("ORDER", x.state(1, 1201, 2, 0), 1921);
        due("ORDER", x.state(1, 1201, 2, 1), 4);
        due("WARMTH", x.state(1, 1201, 2, 2), 201);
        due("WARMTH", x.state(1, 1201, 2, 3), 4);
        due("WARMTH below 0", x.state(2, 15, 1, 2), -150);
        due("WARMTH below 0", x.state(2, 49, 3, 2), -410);
        due("WARMTH below 0", x.state(2, 49, 3, 3), 3);
        due("WET share", x.state(1, 300, 1, 4), 3);
        due("WET share", x.state(1, 300, 1, 5), 4);
        due("WET share of POINT 0", x.state(1, 200, 1, 4), 1);
        due("WET share of POINT 1", x.state(1, 600, 1, 4), 0);
        due("WET share beyond", x.state(1, 601, 1, 4), 0);
        due("WET share beyond", x.state(1, 601, 1, 5), 1);
        due("ORDER 0", x.state(2, 0, 77, 0), 0);
        due("ORDER 0", x.state(2, 0, 77, 1), 1);
        due("the finest", x.state(2, 1, 10_000_000, 0), 3);
        due("the finest", x.state(2, 1, 10_000_000, 1), 100_000_000);
        due("lower number too great", x.state(2, 10_000_001, 10_000_001, 0), UNSAID);
        due("lower number 0", x.state(2, 0, 0, 0), UNSAID);
        due("lower number below 0", x.state(2, -1, -1, 0), UNSAID);
        due("ahead of POINT 0", x.state(1, 1_999_999_999L, 10_000_000, 0), UNSAID);
        due("behind the last", x.state(1, 9_000_000_001L, 10_000_000, 0), UNSAID);
        due("the last", x.state(1, 9_000_000_000L, 10_000_000, 0), 630);
        due("the greatest number", x.state(1, Long.MAX_VALUE, 1, 0), UNSAID);
        due("the least number", x.state(1, Long.MIN_VALUE, 10_000_000, 0), UNSAID);
        due("no such PRESSURE", x.state(3, 1, 1, 0), UNSAID);
        due("no such PRESSURE", x.state(-1, 1, 1, 0), UNSAID);
        due("what -1", x.state(1, 300, 1, -1), UNSAID);
        due("what 6", x.state(1, 300, 1, 6), UNSAID);
    }

    private static void part() {
        ColdHouse x = new ColdHouse();
        int[][] wrong = {{-1, 0, 1}, {4, 0, 0}, {0, -1, 1}, {0, 10, 1}, {0, 0, 0}, {0, 0, 101}, {1, -1, 0}, {1, 10, 0},
            {2, -1, 0}, {2, 3, 0}, {2, 2, -1}, {2, 2, 1001}, {3, -1001, 0}, {3, 1001, 0}, {3, 0, -1}, {3, 0, 101}};
        for (int[] w : wrong) {
            due("part(" + w[0] + ", " + w[1] + ", " + w[2] + ")", x.part(w[0], w[1], w[2]), -1);
        }
        int[][] right = {{0, 0, 1}, {0, 9, 100}, {1, 0, Integer.MIN_VALUE}, {1, 9, Integer.MAX_VALUE}, {2, 0, -7},
            {2, 1, 5000}, {2, 2, 0}, {2, 2, 1000}, {3, -1000, 0}, {3, 1000, 100}, {3, 0, 50}, {1, 5, 0}};
        for (int i = 0; i < right.length; i++) {
            due("part(" + right[i][0] + ", " + right[i][1] + ")", x.part(right[i][0], right[i][1], right[i][2]), i);
        }
        due("no room", x.part(1, 0, 0), -5);
        due("what can't be ahead of no room", x.part(1, 10, 0), -1);
        due("count(1)", x.count(1), 12);
    }

    private static void set() {
        ColdHouse x = ringBench(100);
        due("set(-1, 0, 1)", x.set(-1, 0, 1), -2);
        due("set(4, 0, 1)", x.set(4, 0, 1), -2);
        due("set(12, 0, 1)", x.set(12, 0, 1), -2);
        due("set(0, 10, 1)", x.set(0, 10, 1), -1);
        due("set(0, 1, 0)", x.set(0, 1, 0), -1);
        due("set(1, 3, 0)", x.set(1, 3, 0), -1);
        due("set(1, 2, 1001)", x.set(1, 2, 1001), -1);
        due("set(2, -1, 0)", x.set(2, -1, 0), -1);
        due("nothing was changed", x.run(0, 500, 1), 4);
        due("total(0)", x.total(0), 140);
        due("set(0, 1, 50)", x.set(0, 1, 50), 0);
        due("set(2, 0, -9)", x.set(2, 0, -9), 0);
        due("set(3, 2, 40)", x.set(3, 2, 40), 0);
        due("the latest RUN stays", x.total(0), 140);
        due("the latest RUN stays", x.behind(4, 1), 500);
        due("run(0, 500, 1)", x.run(0, 500, 1), 4);
        due("total(0)", x.total(0), 280);
        due("behind(4, 1)", x.behind(4, 1), 580);
        x.part(3, 5, 100);
        due("set(4, -1000, 0)", x.set(4, -1000, 0), 0);
        due("set(4, -1001, 0)", x.set(4, -1001, 0), -1);
        due("set(4, 0, 101)", x.set(4, 0, 101), -1);
        x.clear();
        due("set(0, 1, 50)", x.set(0, 1, 50), -2);
    }

    private static void clear() {
        ColdHouse x = ringBench(100);
        x.run(0, 500, 1);
        due("clear()", x.clear(), 4);
        due("clear()", x.clear(), 0);
        due("count(1)", x.count(1), 0);
        due("the latest RUN stays", x.count(2), 4);
        due("the latest RUN stays", x.did(0, 2), 0);
        due("a PART", x.part(3, 1, 100), 0);
        due("its KIND is that of the RUN", x.did(0, 2), 0);
        due("run(0, 500, 1)", x.run(0, 500, 1), 1);
        due("did(0, 2)", x.did(0, 2), UNSAID);
    }

    private static void run() {
        ColdHouse x = ringBench(100);
        due("run(0, 500, 0)", x.run(0, 500, 0), -1);
        due("run(0, 500, -1)", x.run(0, 500, -1), -1);
        due("run(0, 500, 10000001)", x.run(0, 5_000_000_500L, 10_000_001), -1);
        due("run(9, 500, 0): what can't be ahead of no such", x.run(9, 500, 0), -1);
        due("run(2, 500, 1)", x.run(2, 500, 1), -2);
        due("run(-1, 500, 1)", x.run(-1, 500, 1), -2);
        due("run(0, 99, 1)", x.run(0, 99, 1), -1);
        due("run(0, 701, 1)", x.run(0, 701, 1), -1);
        due("run(0, greatest, 1)", x.run(0, Long.MAX_VALUE, 1), -1);
        due("run(0, least, 1)", x.run(0, Long.MIN_VALUE, 10_000_000), -1);
        due("no RUN yet", x.count(2), -1);
        due("run(0, 500, 1)", x.run(0, 500, 1), 4);
        due("a refused one is no RUN", x.run(0, 99, 1) + x.count(2), 3);
        due("run in lowest terms", x.run(0, 1500, 3), 4);
        due("behind(0, 1)", x.behind(0, 1), 500);
        due("behind(0, 2)", x.behind(0, 2), 1);
        pressPart();
        throatPart();
        coilPart();
        heaterPart();
        fine();
    }

    private static void pressPart() {
        ColdHouse x = bench(COLD, WARM);
        x.part(0, 1, 100);
        due("PRESS to the PRESSURE that comes", x.run(1, 600, 1), 0);
        x.set(0, 0, 100);
        due("PRESS to one below", x.run(1, 600, 1), 0);
        x.set(0, 2, 100);
        due("PRESS to one that isn't there", x.run(0, 500, 1), 0);
        x.set(0, 1, 100);
        due("ORDER ahead of its POINTS", x.run(0, 149, 1), 0);
        due("ORDER of its POINT 0", x.run(0, 150, 1), 1);
        due("HEAT of its POINT 0", x.behind(1, 1), 200);
        // ORDER 630 is the last of WARM, and its HEAT 900 goes out.
        ColdHouse y = bench(new int[] {100, 100, 0, 500, 630, 0, 510, 640, 1}, WARM);
        y.part(0, 1, 100);
        due("ORDER of its last POINT", y.run(0, 500, 1), 1);
        due("HEAT of its last POINT", y.behind(1, 1), 900);
        due("ORDER behind its POINTS", y.run(0, 5001, 10), 0);
        y.set(0, 1, 99);
        due("HEAT behind its POINTS", y.run(0, 500, 1), 0);
        // Of the same ORDER less HEAT: a share below 100 takes more of it away.
        ColdHouse z = bench(new int[] {400, 100, 0, 800, 500, 0}, new int[] {100, 100, 9, 500, 500, 9});
        z.part(0, 1, 100);
        due("PRESS to less HEAT", z.run(0, 700, 1), 1);
        due("WORK below 0", z.total(0), -300);
        z.set(0, 1, 60);
        due("HEAT ahead of its POINTS", z.run(0, 599, 1), 0);
        due("HEAT at its POINT 0", z.run(0, 600, 1), 1);
        due("behind(1, 1)", z.behind(1, 1), 100);
    }

    private static void throatPart() {
        ColdHouse x = bench(COLD, WARM);
        x.part(1, 0, 9);
        due("THROAT", x.run(1, 700, 1), 1);
        due("behind(1, 0)", x.behind(1, 0), 0);
        due("behind(1, 1)", x.behind(1, 1), 700);
        due("HEAT behind its POINTS", x.run(1, 7001, 10), 0);
        due("THROAT to the PRESSURE that comes", x.run(0, 500, 1), 0);
        x.set(0, 1, 9);
        due("THROAT to one above", x.run(0, 500, 1), 0);
        x.set(0, 9, 9);
        due("THROAT to one that isn't there", x.run(1, 500, 1), 0);
        ColdHouse y = bench(WARM, COLD);
        y.part(1, 0, 0);
        due("HEAT ahead of its POINTS", y.run(1, 1999, 10), 0);
        due("HEAT at its POINT 0", y.run(1, 200, 1), 1);
    }

    private static void coilPart() {
        ColdHouse x = bench(COLD, WARM, new int[] {200, 150, 50, 600, 480, 50});
        x.part(2, 0, 77);
        due("COIL to POINT 0", x.run(1, 700, 1) + 10 * x.behind(1, 1), 2001);
        x.set(0, 1, -77);
        due("COIL to POINT 1", x.run(1, 700, 1) + 10 * x.behind(1, 1), 6001);
        x.set(0, 2, 0);
        due("COIL with 0 more", x.run(1, 300, 1) + 10 * x.behind(1, 1), 6001);
        due("COIL with 0 more, two POINTS", x.run(2, 300, 1) + 10 * x.behind(1, 1), 6001);
        x.set(0, 2, 1);
        due("COIL with 1 more, two POINTS", x.run(2, 300, 1), 0);
        due("COIL with 1 more", x.run(1, 300, 1) + 10 * x.behind(1, 1), 6021);
        due("behind(1, 5)", x.behind(1, 5), 51);
        x.set(0, 2, 150);
        due("COIL to the last POINT", x.run(1, 300, 1) + 10 * x.behind(1, 1), 9001);
        x.set(0, 2, 151);
        due("COIL beyond the last POINT", x.run(1, 300, 1), 0);
    }

    private static void heaterPart() {
        ColdHouse x = bench(COLD, WARM);
        x.part(3, 100, 75);
        due("HEATER, wet as it may be", x.run(0, 100, 1), 1);
        due("behind(1, 1)", x.behind(1, 1), 200);
        x.set(0, 100, 74);
        due("HEATER, too wet", x.run(0, 100, 1), 0);
        due("HEATER, too wet by half a hundredth", x.run(0, 102, 1), 0);
        due("HEATER, dry enough", x.run(0, 104, 1), 1);
        x.set(0, 0, 0);
        due("HEATER to dry steam", x.run(0, 500, 1), 1);
        due("HEATER to not quite dry steam", x.run(0, 4_999_999_999L, 10_000_000), 0);
        x.set(0, 200, 0);
        due("HEATER to the last POINT", x.run(0, 500, 1), 1);
        due("HEATER beyond it", x.run(0, 501, 1), 0);
        x.set(0, -400, 100);
        due("HEATER to POINT 0", x.run(0, 500, 1), 1);
        due("HEATER ahead of it", x.run(0, 499, 1), 0);
        x.set(0, -1000, 100);
        due("HEATER below all", x.run(0, 500, 1), 0);
    }

    /** ORDER is HEAT at PRESSURE 0, and twice that at PRESSURE 1: a PRESS halves the HEAT. */
    private static void fine() {
        ColdHouse x = bench(new int[] {0, 0, 0, 1000, 1000, 0}, new int[] {0, 0, 5, 500, 1000, 5});
        x.part(0, 1, 100);
        due("as FINE as may be", x.run(0, 1, 5_000_000), 1);
        due("behind(1, 2)", x.behind(1, 2), 10_000_000);
        due("too FINE", x.run(0, 1, 10_000_000), 0);
        due("not in lowest terms", x.run(0, 2, 10_000_000), 1);
        due("just too FINE", x.run(0, 1, 5_000_001), 0);
    }

    private static void behind() {
        ColdHouse x = ringBench(50);
        due("behind(0, 0)", x.behind(0, 0), UNSAID);
        x.run(0, 1399, 3);
        // ORDER 1399/3, at WARM wet: 200 + (1399/3 - 150) * 400 / 330, then twice what that is more.
        due("behind(0, 0)", x.behind(0, 0), 0);
        due("behind(0, 1)", x.behind(0, 1), 1399);
        due("behind(0, 2)", x.behind(0, 2), 3);
        due("behind(0, 3)", x.behind(0, 3), 1399);
        due("behind(0, 4)", x.behind(0, 4), 3);
        due("behind(0, 5)", x.behind(0, 5), 0);
        due("behind(0, 6)", x.behind(0, 6), 1);
        due("behind(1, 0)", x.behind(1, 0), 1);
        due("behind(1, 1)", x.behind(1, 1), 69353);
        due("behind(1, 2)", x.behind(1, 2), 99);
        due("behind(1, 3)", x.behind(1, 3), 104993);
        due("behind(1, 4)", x.behind(1, 4), 198);
        due("behind(1, 5)", x.behind(1, 5), 19853);
        due("behind(1, 6)", x.behind(1, 6), 198);
        due("behind(4, 0)", x.behind(4, 0), 0);
        due("behind(4, 1)", x.behind(4, 1), 500);
        due("behind(5, 0)", x.behind(5, 0), UNSAID);
        due("behind(-1, 0)", x.behind(-1, 0), UNSAID);
        due("behind(13, 0)", x.behind(13, 0), UNSAID);
        due("behind(1, -1)", x.behind(1, -1), UNSAID);
        due("behind(1, 7)", x.behind(1, 7), UNSAID);
        x.set(2, 1, 0);
        due("STOPPED", x.run(0, 500, 1), 2);
        due("behind(2, 1)", x.behind(2, 1), 200);
        due("behind(3, 1)", x.behind(3, 1), UNSAID);
    }

    private static void did() {
        ColdHouse x = ringBench(50);
        due("did(0, 0)", x.did(0, 0), UNSAID);
        x.run(0, 500, 1);
        due("did(0, 0)", x.did(0, 0), 280);
        due("did(0, 1)", x.did(0, 1), 1);
        due("did(0, 2)", x.did(0, 2), 70);
        due("did(0, 3)", x.did(0, 3), 1);
        due("did(1, 0)", x.did(1, 0), -580);
        due("did(1, 2): a COIL", x.did(1, 2), UNSAID);
        due("did(1, 3): a COIL", x.did(1, 3), UNSAID);
        due("did(2, 0)", x.did(2, 0), 0);
        due("did(2, 1)", x.did(2, 1), 1);
        due("did(2, 2)", x.did(2, 2), 50);
        due("did(4, 0)", x.did(4, 0), UNSAID);
        due("did(-1, 0)", x.did(-1, 0), UNSAID);
        due("did(12, 0)", x.did(12, 0), UNSAID);
        due("did(0, -1)", x.did(0, -1), UNSAID);
        due("did(0, 4)", x.did(0, 4), UNSAID);
        x.part(3, 7, 100);
        x.set(2, 1, 0);
        x.run(0, 500, 1);
        due("did(1, 0)", x.did(1, 0), -580);
        due("did(2, 0): not gone through", x.did(2, 0), UNSAID);
        x.set(2, 0, 0);
        x.run(0, 500, 1);
        due("did(4, 0): a HEATER", x.did(4, 0), 7);
        due("did(4, 2): a HEATER", x.did(4, 2), UNSAID);
        // A lower number that the press takes out of the HEAT: 997 * 6697909 and 197 * 9767609.
        ColdHouse y = bench(new int[] {0, 490, 0, 997, 590, 0}, new int[] {0, 399, 20, 700, 500, 20, 897, 600, 60});
        y.part(0, 1, 97);
        due("run(0, 636301356, 6697909)", y.run(0, 636_301_356L, 6_697_909), 1);
        due("behind(0, 4)", y.behind(0, 4), 6_677_815_273L);
        due("behind(1, 4)", y.behind(1, 4), 1_924_218_973L);
        due("did(0, 2): not told", y.did(0, 2), UNSAID);
        due("did(0, 3): not told", y.did(0, 3), UNSAID);
        due("did(0, 1): told", y.did(0, 1) > 0 ? 1 : 0, 1);
    }

    private static void total() {
        ColdHouse x = ringBench(100);
        due("total(0)", x.total(0), UNSAID);
        x.part(3, -100, 100);
        x.part(3, 100, 100);
        x.run(0, 500, 1);
        long[] want = {140, 1, 400, 1, 540, 1, 20, 7};
        for (int what = 0; what < 8; what++) {
            due("total(" + what + ")", x.total(what), want[what]);
        }
        due("total(-1)", x.total(-1), UNSAID);
        due("total(8)", x.total(8), UNSAID);
        x.run(0, 400, 1);
        due("not ROUND: no SHARE", x.total(6), UNSAID);
        due("not ROUND: no SHARE", x.total(7), UNSAID);
        due("not ROUND: WARMED all the same", x.total(2), 400);
        x.set(5, 1000, 100);
        due("STOPPED", x.run(0, 500, 1), 5);
        due("total(0)", x.total(0), UNSAID);
        due("total(2)", x.total(2), UNSAID);
        x.clear();
        x.run(0, 500, 1);
        due("no PARTS: WORK", x.total(0), 0);
        due("no PARTS: WORK", x.total(1), 1);
        due("no PARTS: no SHARE", x.total(6), UNSAID);
        // Cooled alone: 200 at COLD, pressed, cooled to 200 at WARM, let down.
        x.part(0, 1, 100);
        x.part(2, 0, 0);
        x.part(1, 0, 0);
        x.run(0, 200, 1);
        due("SHARE of none WARMED", x.total(6), 0);
        due("SHARE of none WARMED", x.total(7), 1);
        smallTotals();
        untoldTotal();
        workBelowNone();
    }

    private static void smallTotals() {
        ColdHouse x = bench(COLD, new int[] {200, 150, 50, 501, 500, 50});
        x.part(0, 1, 100);
        x.part(2, 0, 0);
        x.part(1, 0, 0);
        x.part(2, 1, 0);
        x.run(0, 500, 1);
        due("WORK of 1", x.total(0), 1);
        due("SHARE by 1", x.total(6), 300);
        x.clear();
        x.part(3, 1, 100);
        x.part(3, -1, 100);
        x.run(0, 500, 1);
        due("WARMED by 1", x.total(2), 1);
        due("COOLED by 1", x.total(4), 1);
    }

    private static void untoldTotal() {
        ColdHouse x = bench(new int[] {0, 0, 0, 500, 500, 0, 1000, 1000, 997}, new int[] {0, 9, 10, 500, 1000, 10});
        x.part(2, 2, 1);
        x.part(0, 1, 100);
        due("run(0, 1, 9999991)", x.run(0, 1, 9_999_991), 2);
        due("behind(2, 2)", x.behind(2, 2), 988_027);
        for (int what = 0; what < 8; what++) {
            due("total(" + what + "): too great a lower number", x.total(what), UNSAID);
        }
        due("did(1, 0): told all the same", x.did(1, 0), -249_495_500);
        due("round()", x.round(), 0);
        due("run(0, 1, 1)", x.run(0, 1, 1), 2);
        due("total(0)", x.total(0), -249_495_500);
        due("total(1)", x.total(1), 988_027);
    }

    private static void workBelowNone() {
        ColdHouse x = bench(new int[] {400, 100, 0, 800, 500, 0}, new int[] {300, 100, 9, 700, 500, 9});
        x.part(0, 1, 100);
        x.part(1, 0, 0);
        x.part(3, 100, 100);
        due("run(0, 700, 1)", x.run(0, 700, 1), 3);
        due("round()", x.round(), 1);
        due("total(0)", x.total(0), -100);
        due("total(2)", x.total(2), 100);
        due("WORK below 0: no SHARE", x.total(6), UNSAID);
    }

    private static void round() {
        ColdHouse x = ringBench(100);
        due("round()", x.round(), -1);
        x.run(0, 500, 1);
        due("round()", x.round(), 1);
        x.run(0, 5000, 10);
        due("round()", x.round(), 1);
        x.run(0, 499, 1);
        due("another HEAT", x.round(), 0);
        x.clear();
        x.part(1, 0, 0);
        x.run(1, 500, 1);
        due("another PRESSURE, the same HEAT", x.round(), 0);
        x.part(1, 0, 0);
        x.run(1, 500, 1);
        due("STOPPED", x.round(), 0);
        x.clear();
        due("the latest RUN stays", x.round(), 0);
        x.part(3, 0, 100);
        x.part(0, 0, 100);
        x.run(0, 500, 1);
        due("STOPPED where it began", x.round(), 0);
        x.clear();
        x.run(1, 500, 1);
        due("no PARTS", x.round(), 1);
    }

    private static void best() {
        ColdHouse x = ringBench(50);
        due("no RUN", x.best(0, 0), -6);
        due("no such PART ahead of no RUN", x.best(0, 4), -2);
        x.run(0, 500, 1);
        int[][] wrong = {{-1, 0}, {0, -1}, {4, 0}, {0, 4}, {1, 0}, {0, 1}, {12, 0}, {0, 3}};
        for (int[] w : wrong) {
            due("best(" + w[0] + ", " + w[1] + ")", x.best(w[0], w[1]), -2);
        }
        due("both alike: none comes ROUND", x.best(0, 2), -6);
        due("nothing is changed", x.total(0), 280);
        due("nothing is changed", x.run(0, 500, 1), 4);
        // A second WARM is alike: the lowest of both. A kinder one is better.
        table(x, WARM);
        x.set(0, 9, 50);
        due("best(0, 0)", x.best(0, 0), 1);
        due("that RUN is the latest", x.count(2), 4);
        due("total(6)", x.total(6), 15);
        due("total(7)", x.total(7), 14);
        table(x, 200, 150, 50, 560, 480, 50, 900, 630, 200);
        due("best(0, 0)", x.best(0, 0), 3);
        due("behind(1, 0)", x.behind(1, 0), 3);
        due("the PART has it", x.run(0, 500, 1) + 10 * x.behind(1, 0), 34);
        x.set(0, 1, 50);
        x.run(0, 400, 1);
        due("the beginning of the latest RUN", x.best(0, 0), -6);
        due("behind(0, 1)", x.behind(0, 1), 400);
        due("the PART has what it had", x.behind(1, 0), 1);
        x.run(0, 500, 1);
        x.part(0, 2, 100);
        due("doesn't come ROUND", x.best(0, 0), -6);
        twoAtOnce();
        for (int more = 97; more < 161; more++) {
            for (int other = 97; other < 161; other++) {
                shares(170 + 30 * (other % 3), more, other);
            }
        }
    }

    /** Two PRESSURES of SHARES (500 - boiling) / more and 300 / other: the greater, the first of those alike. */
    private static void shares(int boiling, int more, int other) {
        ColdHouse x = bench(COLD, new int[] {boiling, 150, 50, 500 + more, 500, 50},
                new int[] {200, 150, 50, 500 + other, 500, 50});
        x.part(0, 1, 100);
        x.part(2, 0, 0);
        x.part(1, 0, 0);
        x.part(2, 1, 0);
        x.run(0, 500, 1);
        int want = (500 - boiling) * other >= 300 * more ? 1 : 2;
        due("best of " + (500 - boiling) + "/" + more + " and 300/" + other, x.best(0, 0), want);
    }

    /** A PRESS and a THROAT put to the same PRESSURE, between two others. */
    private static void twoAtOnce() {
        ColdHouse x = bench(COLD, new int[] {140, 110, 20, 520, 470, 20, 700, 570, 110},
                new int[] {180, 130, 40, 540, 460, 40, 760, 580, 150}, WARM);
        x.part(0, 0, 100);
        x.part(0, 3, 100);
        x.part(2, 0, 0);
        x.part(1, 3, 0);
        x.part(1, 0, 0);
        x.part(2, 1, 0);
        due("run(0, 500, 1)", x.run(0, 500, 1), 0);
        due("best(0, 3)", x.best(0, 3), 1);
        due("that RUN is the latest", x.count(2), 6);
        due("round()", x.round(), 1);
        due("behind(1, 0)", x.behind(1, 0), 1);
        due("behind(4, 0)", x.behind(4, 0), 1);
        due("work is the same by each", x.total(0), 140);
    }

    private static void image() {
        ColdHouse x = ringBench(100);
        due("image(0)", x.image(0), -6);
        due("image(3): what can't be ahead of no RUN", x.image(3), -1);
        x.run(0, 500, 1);
        due("image(-1)", x.image(-1), -1);
        due("image(3)", x.image(3), -1);
        due("image(2)", x.image(2), 0);
        // What is kept is of now: PARTS of now, the beginning of the latest RUN.
        x.set(0, 1, 50);
        due("image(0)", x.image(0), 0);
        x.clear();
        x.part(3, 5, 100);
        x.run(1, 1301, 2);
        due("image(1)", x.image(1), 0);
        due("back(0)", x.back(0), 4);
        due("total(0)", x.total(0), 280);
        due("back(2)", x.back(2), 4);
        due("total(0)", x.total(0), 140);
        due("back(1)", x.back(1), 1);
        due("behind(1, 1)", x.behind(1, 1), 1311);
        due("image(2): kept anew", x.image(2), 0);
        due("back(2)", x.back(2), 1);
    }

    private static void back() {
        ColdHouse x = ringBench(100);
        due("back(-1)", x.back(-1), -1);
        due("back(3)", x.back(3), -1);
        due("back(1)", x.back(1), -6);
        x.run(0, 500, 1);
        x.image(1);
        due("back(2)", x.back(2), -6);
        due("nothing is changed", x.count(1), 4);
        x.clear();
        x.run(1, 300, 1);
        due("back(1)", x.back(1), 4);
        due("count(1)", x.count(1), 4);
        due("behind(0, 1)", x.behind(0, 1), 500);
        due("round()", x.round(), 1);
        // The IMAGE has numbers of its own.
        x.set(0, 1, 50);
        due("back(1)", x.back(1), 4);
        due("total(0)", x.total(0), 140);
        x.set(0, 5, 50);
        due("image(0)", x.image(0), 0);
        due("back(0): STOPPED", x.back(0), 0);
        due("count(1)", x.count(1), 4);
        due("round()", x.round(), 0);
    }

    private static void joined() {
        ColdHouse x = ringBench(100);
        x.run(0, 500, 1);
        x.image(0);
        x.set(0, 1, 50);
        x.image(1);
        // 15/7 and 15/14: 225/98 by (210 + 105 + 98)/98.
        due("joined(0, 1, 0)", x.joined(0, 1, 0), 225);
        due("joined(0, 1, 1)", x.joined(0, 1, 1), 413);
        due("joined(1, 0, 0)", x.joined(1, 0, 0), 225);
        due("joined(1, 1, 0)", x.joined(1, 1, 0), 225);
        due("joined(1, 1, 1)", x.joined(1, 1, 1), 616);
        due("joined(0, 2, 0)", x.joined(0, 2, 0), UNSAID);
        due("joined(2, 0, 0)", x.joined(2, 0, 0), UNSAID);
        due("joined(-1, 0, 0)", x.joined(-1, 0, 0), UNSAID);
        due("joined(0, 3, 0)", x.joined(0, 3, 0), UNSAID);
        due("joined(0, 1, -1)", x.joined(0, 1, -1), UNSAID);
        due("joined(0, 1, 2)", x.joined(0, 1, 2), UNSAID);
        due("the latest RUN stays", x.total(0), 140);
        x.set(0, 2, 100);
        due("STOPPED", x.run(0, 500, 1), 0);
        x.image(2);
        due("no SHARE", x.joined(0, 2, 0), UNSAID);
        table(x, 200, 150, 50, 560, 480, 50, 900, 630, 200);
        // By the PRESSURES of now: ORDER 500 has HEAT 560 + 340 * 20 / 150, so SHARE 300 * 3 / 316.
        due("joined(2, 2, 0)", x.joined(2, 2, 0), 50625);
        due("joined(2, 2, 1)", x.joined(2, 2, 1), 41791);
        due("the latest RUN stays", x.round(), 0);
        x.clear();
        x.part(0, 1, 100);
        x.part(2, 0, 0);
        x.part(1, 0, 0);
        x.run(0, 200, 1);
        x.image(1);
        due("one that is WARMED by nothing", x.joined(0, 1, 0), 0);
        due("one that is WARMED by nothing", x.joined(0, 1, 1), 1);
        ColdHouse y = ringBench(100);
        table(y, 200, 150, 50, 620, 500, 50);
        y.run(0, 500, 1);
        y.image(0);
        y.set(0, 2, 100);
        y.image(2);
        // 15/7 and 5/2: 75/14 by (30 + 35 + 14)/14.
        due("joined(0, 2, 0)", y.joined(0, 2, 0), 75);
        due("joined(0, 2, 1)", y.joined(0, 2, 1), 79);
        due("joined(2, 0, 0)", y.joined(2, 0, 0), 75);
        due("joined(2, 0, 1)", y.joined(2, 0, 1), 79);
        greatShares();
    }

    /** WORK 20297931/625000, and WARMED by 1600 in all: SHARE 1000000000/20297931, as great as may be. */
    private static void greatShares() {
        ColdHouse x = bench(new int[] {100, 100, 0, 300, 300, 0, 925, 303, 625}, new int[] {200, 0, 50, 977, 1000, 50});
        x.part(0, 1, 100);
        x.part(2, 0, 0);
        x.part(1, 0, 0);
        x.part(2, 2, 101);
        for (int more : new int[] {500, 500, 399}) {
            x.part(3, more, 100);
            x.part(3, -more, 100);
        }
        due("run(0, 401, 1)", x.run(0, 401, 1), 10);
        due("total(6)", x.total(6), 1_000_000_000);
        due("total(7)", x.total(7), 20_297_931);
        x.image(0);
        due("as great as may be", x.joined(0, 0, 0), 1_000_000_000_000_000_000L);
        due("as great as may be", x.joined(0, 0, 1), 41_007_868_002_880_761L);
        x.set(8, 400, 100);
        x.set(9, -400, 100);
        x.run(0, 401, 1);
        due("total(6)", x.total(6), 1_000_625_000);
        x.image(1);
        due("the second too great", x.joined(0, 1, 0), UNSAID);
        due("the first too great", x.joined(1, 0, 1), UNSAID);
    }

    private static void count() {
        ColdHouse x = ringBench(100);
        due("count(0)", x.count(0), 2);
        due("count(1)", x.count(1), 4);
        due("count(2)", x.count(2), -1);
        due("count(3)", x.count(3), 1);
        due("count(4)", x.count(4), -1);
        due("count(-1)", x.count(-1), -1);
        x.run(0, 500, 1);
        x.sheet(0, 0, 0);
        due("count(2)", x.count(2), 4);
        due("count(3)", x.count(3), 2);
        x.set(2, 1, 0);
        x.run(0, 500, 1);
        due("count(2)", x.count(2), 2);
        x.sheet(0, 0, -1);
        due("count(3)", x.count(3), 1);
    }

    private static void status() {
        ColdHouse x = new ColdHouse();
        due("status()", x.status(), 0);
        x.sheet(0, 0, -1);
        due("sheet refused", x.status(), -4);
        x.sheet(0, 0, 6);
        due("sheet", x.status(), 0);
        x.write(0, 6, 0);
        due("write refused", x.status(), -3);
        x.write(0, 5, 0);
        due("write", x.status(), 0);
        x.pressure(1, 2);
        due("pressure refused", x.status(), -2);
        table(x, COLD);
        due("pressure", x.status(), 0);
        x.best(0, 0);
        due("best refused", x.status(), -2);
        x.part(0, 1, 100);
        due("part", x.status(), 0);
        x.part(9, 0, 0);
        due("part refused", x.status(), -1);
        x.set(0, 1, 100);
        due("set", x.status(), 0);
        x.set(1, 1, 100);
        due("set refused", x.status(), -2);
        x.image(0);
        due("image refused", x.status(), -6);
        x.run(0, 500, 1);
        due("a RUN that STOPS is not refused", x.status(), 0);
        x.back(0);
        due("back refused", x.status(), -6);
        unrefusable(x);
        due("others leave it", x.status(), -6);
        x.image(0);
        due("image", x.status(), 0);
        x.run(0, 500, 0);
        due("run refused", x.status(), -1);
        x.back(0);
        due("back", x.status(), 0);
        unrefusable(x);
        due("others leave it", x.status(), 0);
        x.clear();
        for (int i = 0; i < 13; i++) {
            x.part(1, 0, 0);
        }
        due("no room", x.status(), -5);
        x.clear();
        due("clear() leaves it", x.status(), -5);
        due("status() leaves it", x.status(), -5);
    }

    private static void unrefusable(ColdHouse x) {
        x.point(9, 9, 9);
        x.state(9, 1, 0, 0);
        x.behind(99, 0);
        x.did(99, 0);
        x.total(99);
        x.round();
        x.joined(9, 9, 9);
        x.count(99);
    }
}
