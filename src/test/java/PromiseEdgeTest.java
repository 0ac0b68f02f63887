/**
 * The edges that the document's Promises name, a test for each sentence: for a limit the last value on
 * each side of it, for a refused call its answer, the status behind it, and that nothing was changed.
 */
public final class PromiseEdgeTest {
    private static final long UNSAID = Bench.UNSAID;
    private static final long MIN = Bench.MIN;
    private static final long MAX = Bench.MAX;
    private static final long FINEST = Bench.FINEST;
    private static final int[] LINE = Bench.LINE;
    private static final int[] COLD = Bench.COLD;
    private static final int[] WARM = Bench.WARM;
    /** KIND and two numbers, each on the last good side of a limit. */
    private static final long[][] GOOD = {{0, 0, 1}, {0, 9, 100}, {1, 0, MIN}, {1, 9, MAX}, {2, 0, MIN}, {2, 0, MAX},
        {2, 1, MIN}, {2, 1, MAX}, {2, 2, 0}, {2, 2, 1000}, {3, -1000, 0}, {3, 1000, 100}};
    /** And on the first wrong one. */
    private static final long[][] WRONG = {{0, -1, 1}, {0, 10, 100}, {0, 0, 0}, {0, 9, 101}, {0, MIN, 1}, {0, MAX, 1},
        {0, 0, MIN}, {0, 0, MAX}, {1, -1, 0}, {1, 10, 0}, {1, MIN, 0}, {1, MAX, 0}, {2, -1, 0}, {2, 3, 0}, {2, MIN, 0},
        {2, MAX, 0}, {2, 2, -1}, {2, 2, 1001}, {2, 2, MIN}, {2, 2, MAX}, {3, -1001, 0}, {3, 1001, 100}, {3, MIN, 0},
        {3, MAX, 0}, {3, 0, -1}, {3, 0, 101}, {3, 0, MIN}, {3, 0, MAX}};

    private PromiseEdgeTest() {
    }

    public static void main(String[] args) {
        Bench.sentence("1: No PRESSURES, PARTS, SHEETS", PromiseEdgeTest::newObject);
        sheets();
        pressures();
        parts();
        runs();
        images();
        Bench.sentence("19: NONE for others", PromiseEdgeTest::countOthers);
        Bench.sentence("19: 0 PRESSURES, 1 PARTS, 2 PARTS that the latest RUN went through",
                PromiseEdgeTest::countFull);
        Bench.sentence("19: NONE without", PromiseEdgeTest::countWithoutRun);
        Bench.sentence("20: 0 if it was not, or ahead of any", PromiseEdgeTest::statusAheadOfAny);
        Bench.sentence("20: the latest call of those that can be REFUSED", PromiseEdgeTest::statusOfLatest);
        Bench.end();
    }

    private static void sheets() {
        Bench.sentence("2: n numbers 0: n", PromiseEdgeTest::sheetNumbersAreNone);
        Bench.sentence("2: n numbers 0: n", PromiseEdgeTest::emptySheet);
        Bench.sentence("2: -1 SHEET, sort, n above 40", PromiseEdgeTest::sheetTooLong);
        Bench.sentence("2: -4 (then it is missing)", PromiseEdgeTest::sheetBelowNone);
        Bench.sentence("3: as a byte, short, int has its lowest bits", PromiseEdgeTest::bytes);
        Bench.sentence("3: as a byte, short, int has its lowest bits", PromiseEdgeTest::shorts);
        Bench.sentence("3: as a byte, short, int has its lowest bits", PromiseEdgeTest::ints);
        Bench.sentence("3: -1 no SHEET 0 .. 3; -2 it is missing", PromiseEdgeTest::writeNowhere);
        Bench.sentence("3: -3", PromiseEdgeTest::writeNoPlace);
    }

    private static void pressures() {
        Bench.sentence("4: three numbers each (HEAT, ORDER, WARMTH), from place 0 on", PromiseEdgeTest::pressurePlaces);
        Bench.sentence("4: -1 SHEET, n; -2", PromiseEdgeTest::pressureNowhere);
        Bench.sentence("4: -3 there are not so many", PromiseEdgeTest::pressureTooFew);
        Bench.sentence("4: then -1 what can't be (as told); -5", PromiseEdgeTest::pressureNoRoom);
        Bench.sentence("5: how many POINTS (i -1, what 0)", PromiseEdgeTest::pointCount);
        Bench.sentence("5: -1000 for others", PromiseEdgeTest::pointOthers);
        Bench.sentence("6: low 1 .. 10,000,000", PromiseEdgeTest::stateLower);
        Bench.sentence("6: what 0, 1 ORDER, 2, 3 WARMTH, 4, 5 WET share", PromiseEdgeTest::stateWhat);
        Bench.sentence("6: UNSAID, where there is no such STATE", PromiseEdgeTest::stateNowhere);
    }

    private static void parts() {
        Bench.sentence("7: -1 KIND, numbers", PromiseEdgeTest::partNumbers);
        Bench.sentence("7: of a PRESSURE 0 .. 9, there or not", PromiseEdgeTest::partOfNoPressure);
        Bench.sentence("7: b of a THROAT, of a COIL to 0, 1 may be any", PromiseEdgeTest::partAnyNumber);
        Bench.sentence("7: -5", PromiseEdgeTest::partNoRoom);
        Bench.sentence("8: The numbers of a PART become others: 0. -1", PromiseEdgeTest::setNumbers);
        Bench.sentence("8: -2", PromiseEdgeTest::setNowhere);
        Bench.sentence("9: No PARTS any more: how many there were", PromiseEdgeTest::clearAll);
    }

    private static void runs() {
        Bench.sentence("10: -1 a HEAT (low not 1 .. 10,000,000", PromiseEdgeTest::runLower);
        Bench.sentence("10: or beyond the POINTS)", PromiseEdgeTest::runBeyond);
        Bench.sentence("10: -2 no such PRESSURE", PromiseEdgeTest::runNoPressure);
        Bench.sentence("10: Of several STATES alike the fraction is put in lowest terms", PromiseEdgeTest::runAlike);
        Bench.sentence("10: kept as the latest", PromiseEdgeTest::runRefused);
        Bench.sentence("11: The STATE behind i PARTS of the latest RUN (0 where it began)",
                PromiseEdgeTest::behindPlaces);
        Bench.sentence("11: what 0 PRESSURE, 1, 2 HEAT, 3, 4 ORDER, 5, 6 WARMTH", PromiseEdgeTest::behindWhat);
        Bench.sentence("11: UNSAID without", PromiseEdgeTest::behindWithout);
        Bench.sentence("12: ORDER MADE (2, 3; of COILS, HEATERS UNSAID)", PromiseEdgeTest::didKinds);
        Bench.sentence("12: UNSAID without, or where the RUN did not come through", PromiseEdgeTest::didPlaces);
        Bench.sentence("13: Of the latest RUN (not STOPPED)", PromiseEdgeTest::totalStopped);
        Bench.sentence("13: SHARE (6, 7; UNSAID without)", PromiseEdgeTest::totalWithoutShare);
        Bench.sentence("13: WORK (0, 1), WARMED (2, 3), COOLED (4, 5), SHARE (6, 7", PromiseEdgeTest::totalWhat);
        Bench.sentence("14: 1, 0; NONE without a RUN", PromiseEdgeTest::roundWithout);
        Bench.sentence("15: BEST of two PARTS (may be one)", PromiseEdgeTest::bestOfOne);
        Bench.sentence("15: they have it then, and that RUN is the latest", PromiseEdgeTest::bestIsTaken);
        Bench.sentence("15: -2 (also no such KIND)", PromiseEdgeTest::bestNowhere);
        Bench.sentence("15: -6 (nothing is changed)", PromiseEdgeTest::bestNone);
    }

    private static void images() {
        Bench.sentence("16: IMAGE k (0 .. 2)", PromiseEdgeTest::imageNumbers);
        Bench.sentence("16: -6 there was no RUN", PromiseEdgeTest::imageWithoutRun);
        Bench.sentence("16: PARTS, and the latest RUN's beginning are kept", PromiseEdgeTest::imageFull);
        Bench.sentence("17: -1; -6 it was not kept", PromiseEdgeTest::backNowhere);
        Bench.sentence("17: the RUN from its beginning is made: as run()", PromiseEdgeTest::backAsRun);
        Bench.sentence("18: its upper (what 0), lower (1) number", PromiseEdgeTest::joinedWhat);
        Bench.sentence("18: UNSAID where one was not kept", PromiseEdgeTest::joinedNotKept);
        Bench.sentence("18: has no SHARE", PromiseEdgeTest::joinedNoShare);
        Bench.sentence("18: by the PRESSURES of now", PromiseEdgeTest::joinedOfNow);
    }

    // ---- 1

    private static void newObject() {
        Bench x = new Bench();
        x.plain(0, "status");
        x.plain(0, "count", 0);
        x.plain(0, "count", 1);
        x.plain(-1, "count", 2);
        x.plain(0, "count", 3);
        x.plain(-1, "round");
        x.plain(UNSAID, "total", 0);
        x.plain(UNSAID, "behind", 0, 0);
        x.plain(UNSAID, "did", 0, 0);
        x.plain(UNSAID, "joined", 0, 0, 0);
        x.plain(-1000, "point", 0, -1, 0);
        x.plain(UNSAID, "state", 0, 0, 1, 0);
        x.plain(0, "clear");
        x.plain(0, "status");
        x.due(-2, "run", 0, 0, 1);
        x.due(-2, "set", 0, 0, 1);
        x.due(-2, "best", 0, 0);
        for (int s = 0; s < 4; s++) {
            x.due(-2, "write", s, 0, 0);
            x.due(-2, "pressure", s, 2);
        }
        for (int k = 0; k < 3; k++) {
            x.due(-6, "image", k);
            x.due(-6, "back", k);
        }
    }

    // ---- 2, 3

    /** All numbers 0 but those of POINT 1, of which HEAT and ORDER are 1: what is left of old ones shows. */
    private static void sheetNumbersAreNone() {
        Bench x = new Bench();
        for (int sort = 0; sort < 3; sort++) {
            x.sheetOf(0, 2, 7, 7, 7, 7, 7, 7);
            x.due(6, "sheet", 0, sort, 6);
            x.due(-1, "pressure", 0, 2);
            x.call("write", 0, 3, 1);
            x.call("write", 0, 4, 1);
            x.due(sort, "pressure", 0, 2);
            for (int i = 0; i < 6; i++) {
                x.due(i == 3 || i == 4 ? 1 : 0, "point", sort, i / 3, i % 3);
            }
        }
    }

    private static void emptySheet() {
        Bench x = new Bench();
        x.due(0, "sheet", 0, 0, 0);
        x.due(1, "count", 3);
        x.due(-3, "write", 0, 0, 0);
        x.due(-3, "pressure", 0, 2);
        x.due(1, "sheet", 0, 0, 1);
        x.due(1, "count", 3);
        x.due(0, "write", 0, 0, 0);
        x.due(-3, "write", 0, 1, 0);
    }

    private static void sheetTooLong() {
        for (int sort = 0; sort < 3; sort++) {
            Bench x = new Bench();
            x.due(-1, "sheet", 0, sort, 41);
            x.due(-1, "sheet", 0, sort, MAX);
            x.due(0, "count", 3);
            x.due(40, "sheet", 0, sort, 40);
            x.due(0, "write", 0, 39, 1);
            x.due(-3, "write", 0, 40, 1);
        }
        // A SHEET that is there stays as it was.
        Bench y = new Bench();
        y.sheetOf(0, 2, LINE);
        y.due(-1, "sheet", 0, 2, 41);
        y.due(-1, "sheet", 0, 3, 6);
        y.due(-1, "sheet", 0, -1, 6);
        y.due(1, "count", 3);
        y.due(0, "pressure", 0, 2);
        y.due(1000, "point", 0, 1, 0);
    }

    private static void sheetBelowNone() {
        Bench x = new Bench();
        for (long n : new long[] {-1, MIN}) {
            x.sheetOf(0, 2, LINE);
            x.sheetOf(1, 2, LINE);
            x.due(-4, "sheet", 0, 2, n);
            x.due(1, "count", 3);
            x.due(-2, "write", 0, 0, 0);
            x.due(-2, "pressure", 0, 2);
            x.due(-4, "sheet", 0, 2, n);
            x.due(1, "count", 3);
        }
        x.due(0, "pressure", 1, 2);
        x.due(0, "sheet", 0, 2, 0);
        x.due(2, "count", 3);
    }

    /** Written as both WARMTHS of a PRESSURE, to be read there. */
    private static void kept(int sort, long number, long want) {
        Bench x = withWarmth(sort, number);
        x.due(0, "pressure", 0, 2);
        x.due(want, "point", 0, 0, 2);
        x.due(want, "point", 0, 1, 2);
    }

    private static void keptBeyondWarmth(int sort, long number) {
        withWarmth(sort, number).due(-1, "pressure", 0, 2);
    }

    private static Bench withWarmth(int sort, long number) {
        Bench x = new Bench();
        x.call("sheet", 0, sort, 6);
        x.due(0, "write", 0, 2, number);
        x.due(0, "write", 0, 5, number);
        x.due(0, "write", 0, 3, 1);
        x.due(0, "write", 0, 4, 1);
        return x;
    }

    private static void bytes() {
        long[][] pairs = {{0, 0}, {127, 127}, {128, -128}, {255, -1}, {256, 0}, {257, 1}, {-1, -1}, {-128, -128},
            {-129, 127}, {-256, 0}, {1000, -24}, {MAX, -1}, {MIN, 0}, {65536 + 128, -128}};
        for (long[] pair : pairs) {
            kept(0, pair[0], pair[1]);
        }
    }

    private static void shorts() {
        long[][] pairs = {{127, 127}, {128, 128}, {256, 256}, {1000, 1000}, {-200, -200}, {65535, -1}, {65536, 0},
            {65536 + 1000, 1000}, {65536 - 200, -200}, {-65536, 0}, {-65536 + 1000, 1000}, {MAX, -1}, {MIN, 0}};
        for (long[] pair : pairs) {
            kept(1, pair[0], pair[1]);
        }
        for (long beyond : new long[] {1001, 32767, 32768, -32768, -32769, 65536 - 201, -201}) {
            keptBeyondWarmth(1, beyond);
        }
    }

    private static void ints() {
        for (long number : new long[] {127, 128, 256, 1000, -200, -128, -129}) {
            kept(2, number, number);
        }
        for (long beyond : new long[] {1001, -201, 65536, -65536, 65535, 65536 + 1000, MAX, MIN, 1 << 24}) {
            keptBeyondWarmth(2, beyond);
        }
    }

    private static void writeNowhere() {
        Bench x = new Bench();
        x.due(-1, "write", -1, 0, 0);
        x.due(-2, "write", 0, 0, 0);
        x.due(-2, "write", 3, 0, 0);
        x.due(-1, "write", 4, 0, 0);
        x.due(1, "sheet", 3, 0, 1);
        x.due(0, "write", 3, 0, 0);
        x.due(-2, "write", 2, 0, 0);
        x.due(-4, "sheet", 3, 0, -1);
        x.due(-2, "write", 3, 0, 0);
    }

    private static void writeNoPlace() {
        Bench x = new Bench();
        for (int n : new int[] {40, 6, 1}) {
            x.call("sheet", 0, 2, n);
            x.due(-3, "write", 0, MIN, 0);
            x.due(-3, "write", 0, -1, 0);
            x.due(0, "write", 0, 0, 0);
            x.due(0, "write", 0, n - 1, 0);
            x.due(-3, "write", 0, n, 0);
            x.due(-3, "write", 0, MAX, 0);
        }
        // One that is made shorter has no more the places that it had.
        x.call("sheet", 0, 2, 40);
        x.call("sheet", 0, 2, 6);
        x.due(-3, "write", 0, 6, 0);
    }

    // ---- 4, 5, 6

    private static void pressurePlaces() {
        Bench x = new Bench();
        x.sheetOf(0, 2, 100, 90, -5, 500, 480, -5, -7, -7, -7, 5000);
        x.due(0, "pressure", 0, 2);
        x.due(-1, "pressure", 0, 3);
        long[] want = {100, 90, -5, 500, 480, -5};
        for (int i = 0; i < 6; i++) {
            x.due(want[i], "point", 0, i / 3, i % 3);
        }
        // What is written later is another PRESSURE's.
        x.call("write", 0, 0, 101);
        x.due(1, "pressure", 0, 2);
        x.due(100, "point", 0, 0, 0);
        x.due(101, "point", 1, 0, 0);
        x.call("sheet", 0, 2, -1);
        x.due(100, "point", 0, 0, 0);
    }

    private static void pressureNowhere() {
        Bench x = new Bench();
        x.sheetOf(3, 2, LINE);
        x.due(-1, "pressure", -1, 2);
        x.due(-1, "pressure", 4, 2);
        x.due(-1, "pressure", 3, 1);
        x.due(-1, "pressure", 3, 9);
        x.due(-2, "pressure", 2, 2);
        x.due(-2, "pressure", 0, 8);
        x.due(0, "count", 0);
        x.due(0, "pressure", 3, 2);
    }

    private static void pressureTooFew() {
        for (int n = 2; n <= 8; n++) {
            Bench x = new Bench();
            int[] table = new int[3 * n];
            for (int i = 0; i < n; i++) {
                table[3 * i] = i;
                table[3 * i + 1] = i;
                table[3 * i + 2] = Math.max(0, i - 1);
            }
            x.call("sheet", 0, 2, 3 * n - 1);
            x.due(-3, "pressure", 0, n);
            x.due(0, "count", 0);
            x.sheetOf(0, 2, table);
            x.due(0, "pressure", 0, n);
        }
    }

    private static void pressureNoRoom() {
        Bench x = new Bench();
        x.sheetOf(0, 2, LINE);
        x.sheetOf(1, 2, 0, 0, 0, 0, 1000, 0);
        for (int p = 0; p < 9; p++) {
            x.plain(p, "pressure", 0, 2);
        }
        x.due(-1, "pressure", 1, 2);
        x.due(9, "count", 0);
        x.due(9, "pressure", 0, 2);
        x.due(-1, "pressure", 1, 2);
        x.due(-5, "pressure", 0, 2);
        x.due(10, "count", 0);
    }

    private static void pointCount() {
        Bench x = new Bench(LINE, COLD);
        x.due(2, "point", 0, -1, 0);
        x.due(3, "point", 1, -1, 0);
        x.due(-1000, "point", 2, -1, 0);
        x.due(-1000, "point", -1, -1, 0);
        x.due(-1000, "point", 0, -1, -1);
        x.due(-1000, "point", 0, -1, 1);
        x.due(-1000, "point", 0, -2, 0);
    }

    private static void pointOthers() {
        Bench x = new Bench(LINE, COLD);
        for (long p : new long[] {MIN, -1, 2, 10, MAX}) {
            x.due(-1000, "point", p, 0, 0);
        }
        for (long i : new long[] {MIN, -2, 3, 8, MAX}) {
            x.due(-1000, "point", 1, i, 0);
        }
        for (long what : new long[] {MIN, -1, 3, MAX}) {
            x.due(-1000, "point", 1, 0, what);
        }
        x.due(1000, "point", 0, 1, 0);
        x.due(-1000, "point", 0, 2, 0);
        x.due(700, "point", 1, 2, 0);
        x.due(600, "point", 1, 2, 1);
        x.due(100, "point", 1, 2, 2);
    }

    private static void stateLower() {
        Bench x = new Bench(COLD);
        for (long low : new long[] {Long.MIN_VALUE, -1, 0, FINEST + 1, 2 * FINEST, Long.MAX_VALUE}) {
            for (int what = 0; what < 6; what += 2) {
                x.due(UNSAID, "state", 0, low > 2 * FINEST ? Long.MAX_VALUE : 500 * Math.max(-1, low), low, what);
            }
        }
        x.due(UNSAID, "state", 0, -500, -1, 0);
        x.fraction(500, 1, "state", 0, 500, 1, 0);
        x.fraction(500, 1, "state", 0, 500 * FINEST, FINEST, 0);
        x.fraction(500 * FINEST - 1, FINEST, "state", 0, 500 * FINEST - 1, FINEST, 0);
        x.fraction(4_999_999_499L, FINEST - 1, "state", 0, 4_999_999_499L, FINEST - 1, 0);
    }

    private static void stateWhat() {
        Bench x = new Bench(WARM);
        long[] want = {630 - 75, 1, 50 + 75, 1, 0, 1};
        for (int what = 0; what < 6; what++) {
            x.due(want[what], "state", 0, 750, 1, what);
        }
        for (long what : new long[] {MIN, -2, -1, 6, 7, MAX}) {
            x.due(UNSAID, "state", 0, 750, 1, what);
        }
    }

    private static void stateNowhere() {
        Bench x = new Bench(COLD, WARM);
        for (long p : new long[] {MIN, -1, 2, 10, MAX}) {
            x.due(UNSAID, "state", p, 500, 1, 0);
        }
        x.due(500, "state", 0, 500, 1, 0);
        x.due(UNSAID, "state", 0, Long.MIN_VALUE, 1, 0);
        x.due(UNSAID, "state", 0, Long.MAX_VALUE, 1, 0);
        x.due(UNSAID, "state", 0, Long.MIN_VALUE, FINEST, 0);
        x.due(UNSAID, "state", 0, Long.MAX_VALUE, FINEST, 0);
        x.due(UNSAID, "state", 0, -500, 1, 0);
        // What is a STATE of one is beyond another.
        x.due(UNSAID, "state", 0, 701, 1, 0);
        x.due(1061, "state", 1, 701, 1, 0);
        x.due(UNSAID, "state", 1, 199, 1, 0);
        x.due(199, "state", 0, 199, 1, 0);
        x.due(UNSAID, "state", 1, 901, 1, 0);
    }

    // ---- 7, 8, 9

    private static void partNumbers() {
        Bench x = new Bench();
        for (long[] one : WRONG) {
            x.due(-1, "part", one);
        }
        x.due(0, "count", 1);
        for (int i = 0; i < GOOD.length; i++) {
            x.due(i, "part", GOOD[i]);
        }
        x.due(GOOD.length, "count", 1);
    }

    private static void partOfNoPressure() {
        Bench x = new Bench(LINE);
        x.due(0, "part", 0, 9, 100);
        x.due(1, "part", 1, 9, 0);
        x.due(-1, "part", 0, 10, 100);
        x.due(-1, "part", 1, 10, 0);
        x.due(0, "run", 0, 500, 1);
        for (int p = 1; p < 10; p++) {
            x.add(LINE);
        }
        x.due(1, "run", 0, 500, 1);
        x.due(9, "behind", 1, 0);
    }

    private static void partAnyNumber() {
        Bench x = new Bench(COLD, COLD);
        for (long b : new long[] {MIN, -1, 1001, MAX}) {
            x.call("clear");
            x.due(0, "part", 2, 1, b);
            x.due(1, "part", 1, 0, b);
            x.due(2, "part", 2, 0, b);
            x.due(3, "run", 1, 600, 1);
            x.due(500, "behind", 1, 1);
            x.due(500, "behind", 2, 1);
            x.due(100, "behind", 3, 1);
        }
    }

    private static void partNoRoom() {
        Bench x = new Bench();
        for (int i = 0; i < 11; i++) {
            x.plain(i, "part", 1, 0, 0);
        }
        x.due(11, "part", 3, 7, 100);
        for (int kind = 0; kind < 4; kind++) {
            x.due(-5, "part", kind, 0, 1);
            x.due(12, "count", 1);
        }
        x.due(12, "clear");
        x.due(0, "part", 0, 0, 1);
    }

    private static void setNumbers() {
        Bench x = new Bench();
        for (int kind = 0; kind < 4; kind++) {
            x.plain(kind, "part", kind, 0, 1);
        }
        for (long[] one : WRONG) {
            x.due(-1, "set", one);
        }
        for (long[] one : GOOD) {
            x.due(0, "set", one);
        }
        // Refused, it has the numbers that it had.
        Bench y = new Bench(LINE);
        y.call("part", 3, 7, 100);
        y.due(-1, "set", 0, 8, 101);
        y.due(-1, "set", 0, 1001, 0);
        y.due(1, "run", 0, 0, 1);
        y.due(7, "behind", 1, 1);
        y.due(0, "set", 0, 8, 99);
        y.due(0, "run", 0, 0, 1);
        y.due(1, "run", 0, 2, 1);
        y.due(10, "behind", 1, 1);
    }

    private static void setNowhere() {
        Bench x = new Bench();
        x.due(-2, "set", 0, 0, 1);
        for (int i = 0; i < 12; i++) {
            x.due(-2, "set", i, 0, 1);
            x.plain(i, "part", 0, 0, 1);
            x.due(0, "set", i, 0, 1);
        }
        for (long i : new long[] {MIN, -1, 12, MAX}) {
            x.due(-2, "set", i, 0, 1);
        }
        x.call("clear");
        x.due(-2, "set", 0, 0, 1);
    }

    private static void clearAll() {
        Bench x = Bench.ofRing();
        x.due(4, "run", 0, 500, 1);
        x.due(0, "image", 0);
        x.due(4, "clear");
        x.due(0, "count", 1);
        x.due(0, "clear");
        // The RUN, PRESSURES, SHEETS and IMAGES are what they were.
        x.due(4, "count", 2);
        x.due(15, "total", 6);
        x.due(2, "count", 0);
        x.due(1, "count", 3);
        x.due(4, "back", 0);
        x.call("clear");
        for (int n = 0; n < 2; n++) {
            for (int i = 0; i < 12; i++) {
                x.plain(i, "part", 1, 0, 0);
            }
            x.due(12, "clear");
        }
    }

    // ---- 10 to 14

    private static void runLower() {
        Bench x = new Bench(LINE);
        for (long low : new long[] {Long.MIN_VALUE, -1, 0, FINEST + 1, Long.MAX_VALUE}) {
            x.due(-1, "run", 0, 0, low);
        }
        // Lowest terms would be 500/1, but the number itself is looked at.
        x.due(-1, "run", 0, 1000 * FINEST, 2 * FINEST);
        x.due(-1, "run", 0, -500, -1);
        x.due(-1, "count", 2);
        x.due(0, "run", 0, 0, 1);
        x.due(0, "run", 0, 1, FINEST);
        x.fraction(1, FINEST, "behind", 0, 1);
        x.due(0, "run", 0, 500 * FINEST, FINEST);
        x.fraction(500, 1, "behind", 0, 1);
    }

    private static void runBeyond() {
        Bench x = new Bench(COLD, WARM);
        x.due(-1, "run", 0, 99, 1);
        x.due(-1, "run", 0, 999_999_999L, FINEST);
        x.due(0, "run", 0, 100, 1);
        x.due(0, "run", 0, 700, 1);
        x.due(-1, "run", 0, 7_000_000_001L, FINEST);
        x.due(0, "run", 1, 7_000_000_001L, FINEST);
        x.due(-1, "run", 1, 1_999_999_999L, FINEST);
        x.due(0, "run", 1, 900, 1);
        x.due(-1, "run", 1, 9_000_000_001L, FINEST);
        for (long low : new long[] {1, FINEST}) {
            x.due(-1, "run", 0, Long.MIN_VALUE, low);
            x.due(-1, "run", 0, Long.MAX_VALUE, low);
        }
    }

    private static void runNoPressure() {
        Bench x = new Bench();
        x.due(-2, "run", 0, 500, 1);
        x.add(COLD);
        x.due(0, "run", 0, 500, 1);
        for (long p : new long[] {MIN, -1, 1, 9, 10, MAX}) {
            x.due(-2, "run", p, 500, 1);
        }
        x.due(-2, "run", 1, 500, FINEST);
        x.due(-1, "run", 1, 500, FINEST + 1);
    }

    private static void runAlike() {
        Bench x = new Bench(LINE);
        for (long times : new long[] {1, 2, 3, 1_428_571}) {
            x.due(0, "run", 0, 15 * times, 7 * times);
            x.fraction(15, 7, "behind", 0, 1);
        }
        x.due(-1, "run", 0, 15L * 1_428_572, 7L * 1_428_572);
        for (long low : new long[] {1, 2, FINEST}) {
            x.due(0, "run", 0, 0, low);
            x.fraction(0, 1, "behind", 0, 1);
        }
    }

    private static void runRefused() {
        Bench x = Bench.ofRing();
        x.due(4, "run", 0, 500, 1);
        x.due(-1, "run", 0, 99, 1);
        x.due(-1, "run", 0, 500, 0);
        x.due(-2, "run", 2, 500, 1);
        x.due(4, "count", 2);
        x.due(500, "behind", 0, 1);
        x.due(15, "total", 6);
        x.due(1, "round");
        // Other PARTS are of another RUN.
        x.call("set", 0, 1, 50);
        x.call("part", 3, 1, 100);
        x.due(140, "total", 0);
        x.due(4, "count", 2);
        x.due(0, "run", 0, 100, 1);
        x.due(0, "count", 2);
        x.due(UNSAID, "total", 0);
    }

    private static void behindPlaces() {
        Bench x = Bench.ofRing();
        x.due(4, "run", 0, 500, 1);
        x.due(UNSAID, "behind", MIN, 1);
        x.due(UNSAID, "behind", -1, 1);
        long[] heats = {500, 640, 200, 200, 500};
        for (int i = 0; i < 5; i++) {
            x.due(heats[i], "behind", i, 1);
        }
        for (long i : new long[] {5, 12, 13, MAX}) {
            x.due(UNSAID, "behind", i, 1);
        }
        // STOPPED at the THROAT: no STATE behind it, though the RUN ahead had one.
        x.call("set", 2, 1, 0);
        x.due(2, "run", 0, 500, 1);
        x.due(200, "behind", 2, 1);
        for (int what = 0; what < 7; what++) {
            x.due(UNSAID, "behind", 3, what);
        }
    }

    private static void behindWhat() {
        Bench x = new Bench(LINE, WARM);
        x.due(0, "run", 1, 1501, 2);
        long[] want = {1, 1501, 2, 2221, 4, 501, 4};
        for (int what = 0; what < 7; what++) {
            x.due(want[what], "behind", 0, what);
        }
        for (long what : new long[] {MIN, -2, -1, 7, 8, MAX}) {
            x.due(UNSAID, "behind", 0, what);
        }
    }

    private static void behindWithout() {
        Bench x = Bench.ofRing();
        for (int what = 0; what < 7; what++) {
            x.due(UNSAID, "behind", 0, what);
        }
        x.due(-1, "run", 0, 99, 1);
        x.due(UNSAID, "behind", 0, 0);
    }

    private static void didKinds() {
        Bench x = new Bench(COLD, WARM);
        x.parts(new int[][] {{0, 1, 50}, {2, 0, 0}, {3, 10, 100}, {1, 0, 0}, {2, 2, 10}});
        x.due(5, "run", 0, 500, 1);
        x.fraction(280, 1, "did", 0, 0);
        x.fraction(70, 1, "did", 0, 2);
        x.fraction(-580, 1, "did", 1, 0);
        x.fraction(UNSAID, UNSAID, "did", 1, 2);
        x.fraction(10, 1, "did", 2, 0);
        x.fraction(UNSAID, UNSAID, "did", 2, 2);
        x.fraction(0, 1, "did", 3, 0);
        x.fraction(207, 4, "did", 3, 2);
        x.fraction(310, 1, "did", 4, 0);
        x.fraction(UNSAID, UNSAID, "did", 4, 2);
        for (long what : new long[] {MIN, -2, -1, 4, 5, MAX}) {
            x.due(UNSAID, "did", 0, what);
            x.due(UNSAID, "did", 1, what);
        }
        // PARTS of now are others: the KIND is that of the RUN.
        x.call("clear");
        x.parts(new int[][] {{2, 0, 0}, {1, 0, 0}});
        x.due(70, "did", 0, 2);
        x.due(UNSAID, "did", 1, 2);
    }

    private static void didPlaces() {
        Bench x = Bench.ofRing();
        for (int what = 0; what < 4; what++) {
            x.due(UNSAID, "did", 0, what);
        }
        x.due(4, "run", 0, 500, 1);
        x.due(300, "did", 3, 0);
        for (long i : new long[] {MIN, -1, 4, 12, MAX}) {
            x.due(UNSAID, "did", i, 0);
            x.due(UNSAID, "did", i, 2);
        }
        x.call("set", 2, 1, 0);
        x.due(2, "run", 0, 500, 1);
        x.fraction(-440, 1, "did", 1, 0);
        x.fraction(0, 1, "did", 0, 2);
        x.fraction(UNSAID, UNSAID, "did", 2, 0);
        x.fraction(UNSAID, UNSAID, "did", 2, 2);
        x.fraction(UNSAID, UNSAID, "did", 3, 0);
    }

    private static void totalStopped() {
        Bench x = Bench.ofRing();
        for (int what = 0; what < 8; what++) {
            x.due(UNSAID, "total", what);
        }
        x.due(4, "run", 0, 500, 1);
        x.due(140, "total", 0);
        x.call("set", 2, 1, 0);
        x.due(2, "run", 0, 500, 1);
        for (int what = 0; what < 8; what++) {
            x.due(UNSAID, "total", what);
        }
        // At the last PART too.
        x.call("set", 2, 0, 0);
        x.call("set", 3, 2, 101);
        x.due(3, "run", 0, 500, 1);
        x.due(UNSAID, "total", 0);
        x.call("set", 3, 2, 100);
        x.due(4, "run", 0, 500, 1);
        x.due(140, "total", 0);
        x.due(500, "total", 2);
    }

    private static void totalWithoutShare() {
        Bench x = Bench.ofRing();
        x.due(4, "run", 0, 500, 1);
        x.fraction(15, 7, "total", 6);
        x.due(4, "run", 0, 499, 1);
        x.fraction(UNSAID, UNSAID, "total", 6);
        x.due(300, "total", 2);
        x.call("clear");
        x.due(0, "run", 0, 500, 1);
        x.due(1, "round");
        x.fraction(UNSAID, UNSAID, "total", 6);
        x.fraction(0, 1, "total", 0);
    }

    private static void totalWhat() {
        Bench x = Bench.ofRing();
        x.due(4, "run", 0, 500, 1);
        long[] want = {140, 1, 300, 1, 440, 1, 15, 7};
        for (int what = 0; what < 8; what++) {
            x.due(want[what], "total", what);
        }
        for (long what : new long[] {MIN, -2, -1, 8, 9, MAX}) {
            x.due(UNSAID, "total", what);
        }
    }

    private static void roundWithout() {
        Bench x = Bench.ofRing();
        x.due(-1, "round");
        x.due(-1, "run", 0, 99, 1);
        x.due(-1, "round");
        x.due(4, "run", 0, 500, 1);
        x.due(1, "round");
        x.due(4, "run", 0, 501, 1);
        x.due(0, "round");
        x.due(-1, "run", 0, 500, 0);
        x.due(0, "round");
    }

    // ---- 15

    private static void bestOfOne() {
        Bench x = Bench.ofRing();
        x.due(4, "run", 0, 500, 1);
        x.due(1, "best", 0, 0);
        x.due(0, "best", 2, 2);
        // As the last of twelve, too.
        x.call("clear");
        x.parts(new int[][] {{0, 1, 100}, {2, 0, 0}});
        for (int i = 2; i < 11; i++) {
            x.call("part", 3, i % 2 == 0 ? 1 : -1, 100);
        }
        x.plain(11, "part", 1, 9, 0);
        x.due(11, "run", 0, 201, 1);
        x.due(0, "best", 11, 11);
        x.due(12, "count", 2);
        x.due(1, "round");
        x.due(-2, "best", 12, 12);
    }

    private static void bestIsTaken() {
        Bench x = Bench.ofRing();
        x.call("set", 0, 9, 50);
        x.due(0, "run", 0, 500, 1);
        x.due(1, "best", 0, 0);
        x.due(4, "count", 2);
        x.due(1, "round");
        x.fraction(15, 14, "total", 6);
        x.due(500, "behind", 0, 1);
        x.due(1, "behind", 1, 0);
        // The PART has it from now on, with the share that it had.
        x.due(4, "run", 0, 500, 1);
        x.fraction(280, 1, "total", 0);
    }

    private static void bestNowhere() {
        Bench x = Bench.ofRing();
        x.due(4, "run", 0, 500, 1);
        for (long i : new long[] {MIN, -1, 4, 12, MAX}) {
            x.due(-2, "best", i, 0);
            x.due(-2, "best", 0, i);
            x.due(-2, "best", i, i);
        }
        x.call("part", 3, 0, 100);
        for (int i : new int[] {1, 3, 4}) {
            x.due(-2, "best", i, 0);
            x.due(-2, "best", 2, i);
        }
        x.due(4, "count", 2);
        x.call("clear");
        x.due(-2, "best", 0, 0);
    }

    private static void bestNone() {
        Bench x = Bench.ofRing();
        x.due(-6, "best", 0, 0);
        x.due(-1, "count", 2);
        x.call("set", 0, 1, 50);
        x.due(4, "run", 0, 500, 1);
        x.call("part", 3, 1, 100);
        x.due(-6, "best", 0, 0);
        x.due(-6, "best", 2, 2);
        x.due(-6, "best", 0, 2);
        // The RUN of four PARTS is the latest still, and the PARTS have what they had.
        x.due(4, "count", 2);
        x.fraction(280, 1, "total", 0);
        x.due(5, "count", 1);
        x.due(5, "run", 0, 500, 1);
        x.due(1, "behind", 1, 0);
        x.due(0, "behind", 3, 0);
        x.fraction(280, 1, "total", 0);
    }

    // ---- 16, 17, 18

    private static void imageNumbers() {
        Bench x = Bench.ofRing();
        x.due(4, "run", 0, 500, 1);
        for (long k : new long[] {MIN, -1, 3, MAX}) {
            x.due(-1, "image", k);
            x.due(-1, "back", k);
        }
        for (int k = 0; k < 3; k++) {
            x.due(-6, "back", k);
            x.due(0, "image", k);
            x.due(4, "back", k);
        }
    }

    private static void imageWithoutRun() {
        Bench x = Bench.ofRing();
        for (int k = 0; k < 3; k++) {
            x.due(-6, "image", k);
        }
        x.due(-1, "run", 0, 99, 1);
        x.due(-6, "image", 0);
        x.due(-6, "back", 0);
        x.due(4, "count", 1);
        // One that STOPS at once is a RUN.
        x.due(0, "run", 0, 100, 1);
        x.due(0, "image", 0);
        x.due(0, "back", 0);
    }

    private static void imageFull() {
        Bench x = new Bench(LINE);
        x.due(0, "run", 0, 1, 3);
        x.due(0, "image", 0);
        for (int i = 0; i < 12; i++) {
            x.call("part", 3, i + 1, 100);
        }
        x.due(0, "image", 1);
        x.due(0, "back", 0);
        x.due(0, "count", 1);
        x.due(12, "back", 1);
        x.due(12, "count", 1);
        x.fraction(1, 3, "behind", 0, 1);
        x.fraction(235, 3, "behind", 12, 1);
        x.due(-2, "set", 12, 0, 0);
        x.due(-5, "part", 3, 0, 100);
        // Kept anew, it is another; a refused one leaves it.
        x.due(12, "run", 0, 2, 3);
        x.due(-1, "image", 3);
        x.due(0, "image", 0);
        x.due(12, "back", 0);
        x.fraction(2, 3, "behind", 0, 1);
        x.due(12, "back", 1);
        x.fraction(1, 3, "behind", 0, 1);
    }

    private static void backNowhere() {
        Bench x = Bench.ofRing();
        x.due(4, "run", 0, 500, 1);
        x.due(0, "image", 1);
        x.call("set", 0, 1, 50);
        x.due(4, "run", 0, 499, 1);
        for (long k : new long[] {MIN, -1, 3, MAX}) {
            x.due(-1, "back", k);
        }
        x.due(-6, "back", 0);
        x.due(-6, "back", 2);
        // Nothing came back.
        x.due(499, "behind", 0, 1);
        x.due(4, "run", 0, 500, 1);
        x.fraction(280, 1, "total", 0);
        x.due(4, "back", 1);
        x.fraction(140, 1, "total", 0);
    }

    private static void backAsRun() {
        Bench x = Bench.ofRing();
        x.call("set", 0, 2, 100);
        x.due(0, "run", 0, 500, 1);
        x.due(0, "image", 0);
        x.call("clear");
        x.due(0, "run", 0, 400, 1);
        // STOPPED at its first PART, it is no refused call.
        x.due(0, "back", 0);
        x.due(4, "count", 1);
        x.due(0, "count", 2);
        x.due(0, "round");
        x.due(500, "behind", 0, 1);
        x.add(WARM);
        x.due(4, "back", 0);
        x.due(4, "count", 2);
        x.due(1, "round");
        x.fraction(15, 7, "total", 6);
        // What came back is no part of the IMAGE.
        x.call("set", 0, 1, 50);
        x.call("part", 3, 1, 100);
        x.due(4, "back", 0);
        x.due(2, "behind", 1, 0);
        x.due(4, "count", 1);
    }

    private static Bench twoImages() {
        Bench x = Bench.ofRing();
        x.call("run", 0, 500, 1);
        x.call("image", 0);
        x.call("set", 0, 1, 50);
        x.call("image", 1);
        return x;
    }

    private static void joinedWhat() {
        Bench x = twoImages();
        x.fraction(225, 413, "joined", 0, 1, 0);
        x.fraction(225, 413, "joined", 1, 0, 0);
        x.fraction(225, 259, "joined", 0, 0, 0);
        for (long what : new long[] {MIN, -1, 2, MAX}) {
            x.due(UNSAID, "joined", 0, 1, what);
        }
        // The PARTS and the latest RUN are what they were.
        x.fraction(140, 1, "total", 0);
        x.due(4, "run", 0, 500, 1);
        x.fraction(280, 1, "total", 0);
    }

    private static void joinedNotKept() {
        Bench x = twoImages();
        for (long k : new long[] {MIN, -1, 2, 3, MAX}) {
            x.fraction(UNSAID, UNSAID, "joined", k, 0, 0);
            x.fraction(UNSAID, UNSAID, "joined", 0, k, 0);
            x.fraction(UNSAID, UNSAID, "joined", k, k, 0);
        }
        x.due(0, "image", 2);
        x.fraction(225, 413, "joined", 0, 2, 0);
        x.fraction(225, 413, "joined", 2, 0, 0);
    }

    private static void joinedNoShare() {
        Bench x = twoImages();
        // Not ROUND, STOPPED, without WORK.
        x.due(4, "run", 0, 499, 1);
        x.due(0, "image", 2);
        x.due(UNSAID, "joined", 0, 2, 0);
        x.due(UNSAID, "joined", 2, 0, 0);
        x.due(0, "run", 0, 100, 1);
        x.due(0, "image", 2);
        x.due(UNSAID, "joined", 0, 2, 1);
        x.due(UNSAID, "joined", 2, 0, 1);
        x.call("clear");
        x.due(0, "run", 0, 500, 1);
        x.due(0, "image", 2);
        x.due(UNSAID, "joined", 0, 2, 0);
        x.due(UNSAID, "joined", 2, 0, 0);
        // A SHARE of 0 is one.
        x.parts(new int[][] {{0, 1, 100}, {2, 0, 0}, {1, 0, 0}});
        x.due(3, "run", 0, 200, 1);
        x.due(0, "total", 6);
        x.due(0, "image", 2);
        x.fraction(0, 1, "joined", 0, 2, 0);
        x.fraction(0, 1, "joined", 2, 0, 0);
        x.fraction(0, 1, "joined", 2, 2, 0);
    }

    private static void joinedOfNow() {
        Bench x = twoImages();
        x.call("set", 0, 2, 100);
        x.due(0, "run", 0, 500, 1);
        x.due(0, "image", 2);
        x.fraction(UNSAID, UNSAID, "joined", 0, 2, 0);
        x.add(200, 150, 50, 620, 500, 50);
        // SHARES 15/7 and 5/2.
        x.fraction(75, 79, "joined", 0, 2, 0);
        x.fraction(75, 79, "joined", 2, 0, 0);
        x.due(0, "count", 2);
    }

    // ---- 19, 20

    private static void countOthers() {
        Bench x = Bench.ofRing();
        x.call("run", 0, 500, 1);
        for (long what : new long[] {MIN, -1, 4, MAX}) {
            x.due(-1, "count", what);
        }
        x.due(2, "count", 0);
        x.due(4, "count", 1);
        x.due(4, "count", 2);
        x.due(1, "count", 3);
    }

    private static void countFull() {
        Bench x = new Bench();
        for (int s = 0; s < 4; s++) {
            x.sheetOf(s, 2, LINE);
            x.due(s + 1, "count", 3);
        }
        for (int p = 0; p < 11; p++) {
            x.call("pressure", 0, 2);
            x.due(Math.min(10, p + 1), "count", 0);
        }
        for (int i = 0; i < 13; i++) {
            x.call("part", 3, 1, 100);
            x.due(Math.min(12, i + 1), "count", 1);
        }
        x.call("run", 0, 0, 1);
        x.due(12, "count", 2);
        x.call("run", 0, 989, 1);
        x.due(11, "count", 2);
        for (int s = 3; s >= 0; s--) {
            x.call("sheet", s, 0, -1);
            x.due(s, "count", 3);
        }
    }

    private static void countWithoutRun() {
        Bench x = Bench.ofRing();
        x.due(-1, "count", 2);
        x.due(-2, "run", 2, 500, 1);
        x.due(-1, "count", 2);
        x.due(0, "run", 0, 100, 1);
        x.due(0, "count", 2);
    }

    private static void statusAheadOfAny() {
        Bench x = new Bench();
        x.plain(0, "status");
        unrefusable(x);
        x.plain(0, "status");
        // Not refused: a call of each that can be.
        x.plain(6, "sheet", 0, 2, 6);
        x.plain(0, "status");
        x.plain(0, "write", 0, 3, 1);
        x.plain(0, "status");
        x.plain(0, "write", 0, 4, 1);
        x.plain(0, "pressure", 0, 2);
        x.plain(0, "status");
        x.plain(0, "part", 3, 0, 100);
        x.plain(0, "status");
        x.plain(0, "set", 0, 1, 100);
        x.plain(0, "status");
        x.plain(0, "run", 0, 1, 1);
        x.plain(0, "status");
        x.plain(0, "image", 0);
        x.plain(0, "status");
        x.plain(0, "back", 0);
        x.plain(0, "status");
    }

    private static void statusOfLatest() {
        Bench x = Bench.ofRing();
        x.plain(-1, "sheet", 4, 0, 0);
        x.plain(-2, "write", 0, 0, 0);
        x.plain(-3, "write", 3, 9, 0);
        x.plain(-4, "sheet", 2, 0, -1);
        x.plain(-4, "status");
        x.plain(-4, "status");
        unrefusable(x);
        x.plain(-4, "status");
        x.plain(-6, "image", 0);
        x.plain(-6, "status");
        x.plain(-2, "run", 2, 500, 1);
        x.plain(-2, "status");
        x.plain(4, "run", 0, 500, 1);
        x.plain(0, "status");
        unrefusable(x);
        x.plain(0, "status");
        x.plain(-2, "best", 1, 1);
        x.plain(-2, "status");
        x.plain(1, "best", 0, 0);
        x.plain(0, "status");
        x.plain(-6, "back", 2);
        x.plain(-6, "status");
        x.plain(4, "clear");
        x.plain(-6, "status");
    }

    /** What can't be refused answers here all the same that there is none: no code of refusal. */
    private static void unrefusable(Bench x) {
        x.plain(-1000, "point", 9, 9, 9);
        x.plain(UNSAID, "state", 9, 1, 0, 0);
        x.plain(UNSAID, "behind", 99, 0);
        x.plain(UNSAID, "did", 99, 0);
        x.plain(UNSAID, "total", 99);
        x.plain(UNSAID, "joined", 9, 9, 9);
        x.plain(-1, "count", 99);
        x.call("round");
    }
}
