/**
 * The edges that the document's Terms name, a test for each sentence: for a limit the last value on
 * each side of it, for a refused call its answer and the status behind it. Where a limit itself can't
 * be reached, the nearest numbers that can be are taken, and the test says why they are.
 */
public final class TermsEdgeTest {
    private static final long UNSAID = Bench.UNSAID;
    private static final long MIN = Bench.MIN;
    private static final long MAX = Bench.MAX;
    private static final long FINEST = Bench.FINEST;
    private static final int[] LINE = Bench.LINE;
    private static final int[] COLD = Bench.COLD;
    private static final int[] WARM = Bench.WARM;
    /** Eight POINTS, no two stretches alike. */
    private static final int[] EIGHT = {0, 0, 0, 100, 90, 0, 200, 150, 10, 300, 250, 30, 400, 260, 31, 500, 400, 100,
        600, 450, 200, 700, 1000, 1000};
    /** Eight POINTS, each as close to the one ahead as may be. */
    private static final int[] STEEP = {0, 0, 0, 1, 1, 0, 2, 2, 1, 3, 3, 2, 4, 4, 3, 5, 5, 4, 6, 6, 5, 7, 7, 6};
    /** By the ORDER of LINE, from 200 to 800, HEATS from 300 to 700. */
    private static final int[] NARROW = {300, 200, 5, 700, 800, 5};

    private TermsEdgeTest() {
    }

    public static void main(String[] args) {
        Bench.sentence("An object is used for at most 512 calls", TermsEdgeTest::lastCall);
        stuff();
        states();
        refusals();
        parts();
        runs();
        Bench.end();
    }

    private static void stuff() {
        Bench.sentence("SHEETS 0 .. 3", TermsEdgeTest::sheetNumbers);
        Bench.sentence("missing at first", TermsEdgeTest::sheetsMissing);
        Bench.sentence("bytes (sort 0), shorts (1), ints (2)", TermsEdgeTest::sorts);
        Bench.sentence("PRESSURES 0 .. 9 (10 at most)", TermsEdgeTest::tenPressures);
        Bench.sentence("as they come", TermsEdgeTest::pressuresAsTheyCome);
        Bench.sentence("each above the one ahead", TermsEdgeTest::pressuresAbove);
        Bench.sentence("two to eight POINTS", TermsEdgeTest::pointsOfAPressure);
        Bench.sentence("HEAT (0 .. 1000)", TermsEdgeTest::heatOfPoints);
        Bench.sentence("ORDER (0 .. 1000)", TermsEdgeTest::orderOfPoints);
        Bench.sentence("WARMTH (-200 .. 1000)", TermsEdgeTest::warmthOfPoints);
        Bench.sentence("POINT 1 DRY steam of the same WARMTH", TermsEdgeTest::sameWarmth);
        Bench.sentence("both HEAT and ORDER rise from POINT to POINT", TermsEdgeTest::heatAndOrderRise);
        Bench.sentence("WARMTH from POINT 1 on", TermsEdgeTest::warmthRises);
    }

    private static void states() {
        Bench.sentence("a fraction in lowest terms", TermsEdgeTest::lowestTerms);
        Bench.sentence("from that of its POINT 0 to that of its last one", TermsEdgeTest::heatOfStates);
        Bench.sentence("Between two POINTS all goes straight", TermsEdgeTest::besideAPoint);
        Bench.sentence("those of its place between the POINTS about it", TermsEdgeTest::everyStretch);
        Bench.sentence("WET share: 1 at POINT 0, 0 at POINT 1, straight between, 0 beyond", TermsEdgeTest::wetShare);
        Bench.sentence("a lower number above 10,000,000 (in lowest terms) is too FINE", TermsEdgeTest::tooFine);
    }

    private static void refusals() {
        Bench.sentence("The first of these in that order", TermsEdgeTest::orderOfRefusals);
        Bench.sentence("The first of these in that order", TermsEdgeTest::orderOfPressureRefusals);
        Bench.sentence("-6 it can't be gone through, doesn't come round, or there is none", TermsEdgeTest::noWay);
    }

    private static void parts() {
        Bench.sentence("PARTS 0 .. 11 (12 at most), in order", TermsEdgeTest::twelveParts);
        Bench.sentence("each of a KIND", TermsEdgeTest::kinds);
        Bench.sentence("0 PRESS to PRESSURE a (above the one that comes; else it can't be)", TermsEdgeTest::pressAbove);
        Bench.sentence("100 / b times (h less that)", TermsEdgeTest::pressShare);
        Bench.sentence("ORDER beyond that PRESSURE's POINTS: it can't be", TermsEdgeTest::pressOrder);
        Bench.sentence("likewise any HEAT that goes out", TermsEdgeTest::pressHeat);
        Bench.sentence("likewise any HEAT that goes out", TermsEdgeTest::throatHeat);
        Bench.sentence("likewise any HEAT that goes out", TermsEdgeTest::heaterHeat);
        Bench.sentence("1 THROAT to PRESSURE a (below the one that comes): the same HEAT", TermsEdgeTest::throatBelow);
        Bench.sentence("b is not looked at", TermsEdgeTest::throatNumber);
        Bench.sentence("2 COIL to a: 0 POINT 0, 1 POINT 1, of its PRESSURE", TermsEdgeTest::coilToPoints);
        Bench.sentence("with b (0 .. 1000) more of WARMTH than there", TermsEdgeTest::coilWarmth);
        Bench.sentence("at or behind POINT 1", TermsEdgeTest::coilEveryStretch);
        Bench.sentence("not beyond the last POINT; with b 0 POINT 1", TermsEdgeTest::coilEnds);
        Bench.sentence("WARMED by what it has more, COOLED by what it has less", TermsEdgeTest::warmedAndCooled);
        Bench.sentence("3 HEATER: a (-1000 .. 1000) of HEAT more", TermsEdgeTest::heaterMore);
        Bench.sentence("it may not be wetter than b hundredths (0 .. 100)", TermsEdgeTest::heaterWet);
        Bench.sentence("as it goes out", TermsEdgeTest::heaterWetGoingOut);
    }

    private static void runs() {
        Bench.sentence("goes through all PARTS in order", TermsEdgeTest::allParts);
        Bench.sentence("goes through all PARTS in order", TermsEdgeTest::noParts);
        Bench.sentence("It STOPS at the first that can't be gone through", TermsEdgeTest::stops);
        Bench.sentence("or goes out too FINE", TermsEdgeTest::stopsTooFine);
        Bench.sentence("it has not STOPPED, and ends in the STATE in which it began", TermsEdgeTest::comesRound);
        Bench.sentence("WORK, WARMED, COOLED are the sums over its PARTS", TermsEdgeTest::sums);
        Bench.sentence("a RUN that comes ROUND and whose WORK is above 0", TermsEdgeTest::workAboveNone);
        Bench.sentence("the least common lower number of all HEATS of the RUN is above 10 to the 12",
                TermsEdgeTest::untold);
        Bench.sentence("None of these is told", TermsEdgeTest::untoldRound);
        Bench.sentence("not told, if the least common lower number of both is above 10 to the 15",
                TermsEdgeTest::orderMade);
        Bench.sentence("each a PRESS or THROAT", TermsEdgeTest::bestKinds);
        Bench.sentence("of all PRESSURES put for a of both of them", TermsEdgeTest::bestOfAll);
        Bench.sentence("for which the RUN from its beginning comes ROUND and has a SHARE",
                TermsEdgeTest::bestWithShare);
        Bench.sentence("the greatest SHARE; of those alike the lowest PRESSURE", TermsEdgeTest::bestAlike);
        Bench.sentence("told, if all four numbers of these are 1,000,000,000 at most", TermsEdgeTest::joinedUpper);
        Bench.sentence("told, if all four numbers of these are 1,000,000,000 at most", TermsEdgeTest::joinedLower);
    }

    // ---- helpers

    private static void canBe(int... table) {
        Bench x = new Bench();
        x.sheetOf(0, 2, table);
        x.due(0, "pressure", 0, table.length / 3);
        for (int i = 0; i < table.length; i++) {
            x.plain(table[i], "point", 0, i / 3, i % 3);
        }
    }

    private static void cannotBe(int... table) {
        Bench x = new Bench();
        x.sheetOf(0, 2, table);
        x.due(-1, "pressure", 0, table.length / 3);
        x.due(0, "count", 0);
        x.due(-1000, "point", 0, 0, 0);
    }

    private static int[] with(int[] table, int place, int number) {
        int[] other = table.clone();
        other[place] = number;
        return other;
    }

    /** PRESS i and back: WORK with a lower number of its own, and three PARTS. */
    private static void pressAndBack(Bench x, int pressure, int share, int home) {
        x.parts(new int[][] {{0, pressure, share}, {1, home, 0}, {2, 1, 0}});
    }

    // ---- the object

    private static void lastCall() {
        Bench x = Bench.ofRing();
        x.plain(4, "run", 0, 500, 1);
        while (x.calls() < 509) {
            x.call("best", 0, 0);
        }
        x.plain(1, "round");
        x.plain(15, "total", 6);
        x.plain(7, "total", 7);
    }

    // ---- SHEETS, PRESSURES, POINTS

    private static void sheetNumbers() {
        Bench x = new Bench();
        for (long s : new long[] {MIN, -1, 4, MAX}) {
            x.due(-1, "sheet", s, 2, 6);
            x.due(-1, "write", s, 0, 0);
            x.due(-1, "pressure", s, 2);
        }
        x.due(0, "count", 3);
        for (int s = 0; s < 4; s++) {
            x.due(6, "sheet", s, 2, 6);
            x.due(0, "write", s, 3, 10 + s);
            x.due(0, "write", s, 4, 1);
            x.due(s + 1, "count", 3);
        }
        for (int s = 0; s < 4; s++) {
            x.due(s, "pressure", s, 2);
            x.due(10 + s, "point", s, 1, 0);
        }
    }

    private static void sheetsMissing() {
        Bench x = new Bench();
        for (int s = 0; s < 4; s++) {
            x.due(-2, "write", s, 0, 0);
            x.due(-2, "pressure", s, 2);
        }
        x.due(0, "count", 3);
    }

    private static void sorts() {
        Bench x = new Bench();
        for (long sort : new long[] {MIN, -1, 3, MAX}) {
            x.due(-1, "sheet", 0, sort, 1);
            x.due(0, "count", 3);
        }
        for (int sort = 0; sort < 3; sort++) {
            x.due(1, "sheet", sort, sort, 1);
            x.due(sort + 1, "count", 3);
        }
    }

    private static Bench tenAlike() {
        Bench x = new Bench();
        x.sheetOf(0, 2, LINE);
        for (int p = 0; p < 10; p++) {
            x.plain(p, "pressure", 0, 2);
        }
        return x;
    }

    private static void tenPressures() {
        Bench x = new Bench();
        x.sheetOf(0, 2, LINE);
        for (int p = 0; p < 10; p++) {
            x.due(p, "pressure", 0, 2);
            x.due(p + 1, "count", 0);
        }
        x.due(-5, "pressure", 0, 2);
        x.due(-5, "pressure", 0, 2);
        x.due(10, "count", 0);
        x.due(1000, "point", 9, 1, 0);
        x.due(-1000, "point", 10, 1, 0);
        x.due(500, "state", 9, 500, 1, 0);
        x.due(UNSAID, "state", 10, 500, 1, 0);
        x.due(0, "run", 9, 500, 1);
        x.due(-2, "run", 10, 500, 1);
    }

    private static void pressuresAsTheyCome() {
        Bench x = new Bench();
        for (int p = 0; p < 10; p++) {
            x.sheetOf(0, 2, with(LINE, 0, 1000));
            x.due(-1, "pressure", 0, 2);
            x.sheetOf(0, 2, with(LINE, 3, 100 + p));
            x.due(p, "pressure", 0, 2);
            x.due(100 + p, "point", p, 1, 0);
        }
    }

    /** All ten have the same POINTS, so that nothing but their numbers can put one above another. */
    private static void pressuresAbove() {
        for (int a : new int[] {0, 1, 8, 9}) {
            Bench x = tenAlike();
            x.plain(0, "part", 0, a, 100);
            for (int from = 0; from < 10; from++) {
                x.due(a > from ? 1 : 0, "run", from, 500, 1);
            }
            x.plain(1, "clear");
            x.plain(0, "part", 1, a, 0);
            for (int from = 0; from < 10; from++) {
                x.due(a < from ? 1 : 0, "run", from, 500, 1);
            }
        }
    }

    private static void pointsOfAPressure() {
        Bench x = new Bench();
        x.sheetOf(0, 2, STEEP);
        for (long n : new long[] {MIN, -1, 0, 1, 9, MAX}) {
            x.due(-1, "pressure", 0, n);
        }
        // Three times these wrap around to 1 and 2: places that would be there.
        x.due(-1, "pressure", 0, -1_431_655_765L);
        x.due(-1, "pressure", 0, 1_431_655_766L);
        x.due(0, "count", 0);
        for (int n = 2; n <= 8; n++) {
            x.due(n - 2, "pressure", 0, n);
            x.due(n, "point", n - 2, -1, 0);
            x.due(n - 1, "point", n - 2, n - 1, 0);
            x.due(-1000, "point", n - 2, n, 0);
        }
    }

    private static void heatOfPoints() {
        canBe(0, 0, 0, 10, 10, 0);
        cannotBe(-1, 0, 0, 10, 10, 0);
        canBe(0, 0, 0, 1000, 10, 0);
        cannotBe(0, 0, 0, 1001, 10, 0);
        canBe(0, 0, 0, 10, 10, 0, 1000, 20, 1);
        cannotBe(0, 0, 0, 10, 10, 0, 1001, 20, 1);
        canBe(999, 0, 0, 1000, 10, 0);
        cannotBe(1000, 0, 0, 1001, 10, 0);
        cannotBe(0, 0, 0, (int) MAX, 10, 0);
        cannotBe((int) MIN, 0, 0, 10, 10, 0);
    }

    private static void orderOfPoints() {
        canBe(0, 0, 0, 10, 10, 0);
        cannotBe(0, -1, 0, 10, 10, 0);
        canBe(0, 0, 0, 10, 1000, 0);
        cannotBe(0, 0, 0, 10, 1001, 0);
        canBe(0, 0, 0, 10, 10, 0, 20, 1000, 1);
        cannotBe(0, 0, 0, 10, 10, 0, 20, 1001, 1);
        canBe(0, 999, 0, 10, 1000, 0);
        cannotBe(0, 1000, 0, 10, 1001, 0);
        cannotBe(0, 0, 0, 10, (int) MAX, 0);
        cannotBe(0, (int) MIN, 0, 10, 10, 0);
    }

    private static void warmthOfPoints() {
        canBe(0, 0, -200, 10, 10, -200);
        cannotBe(0, 0, -201, 10, 10, -201);
        canBe(0, 0, 1000, 10, 10, 1000);
        cannotBe(0, 0, 1001, 10, 10, 1001);
        canBe(0, 0, -200, 10, 10, -200, 20, 20, 1000);
        cannotBe(0, 0, -200, 10, 10, -200, 20, 20, 1001);
        canBe(0, 0, 999, 10, 10, 999, 20, 20, 1000);
        cannotBe(0, 0, 1000, 10, 10, 1000, 20, 20, 1001);
        cannotBe(0, 0, (int) MAX, 10, 10, (int) MAX);
        cannotBe(0, 0, (int) MIN, 10, 10, (int) MIN);
    }

    private static void sameWarmth() {
        canBe(0, 0, 5, 10, 10, 5);
        cannotBe(0, 0, 5, 10, 10, 6);
        cannotBe(0, 0, 5, 10, 10, 4);
        canBe(0, 0, 5, 10, 10, 5, 20, 20, 6);
        cannotBe(0, 0, 4, 10, 10, 5, 20, 20, 6);
    }

    private static void heatAndOrderRise() {
        canBe(STEEP);
        for (int i = 1; i < 8; i++) {
            for (int column = 0; column < 2; column++) {
                int ahead = STEEP[3 * i - 3 + column];
                cannotBe(with(STEEP, 3 * i + column, ahead));
                cannotBe(with(STEEP, 3 * i + column, ahead - 1));
            }
        }
    }

    private static void warmthRises() {
        canBe(STEEP);
        for (int i = 2; i < 8; i++) {
            int ahead = STEEP[3 * i - 1];
            cannotBe(with(STEEP, 3 * i + 2, ahead));
            cannotBe(with(STEEP, 3 * i + 2, ahead - 1));
        }
    }

    // ---- STATES

    private static void lowestTerms() {
        Bench x = new Bench(COLD);
        x.due(0, "run", 0, 2_000_000_000L, FINEST);
        x.fraction(200, 1, "behind", 0, 1);
        x.fraction(200, 1, "behind", 0, 3);
        x.due(0, "run", 0, 2_000_000_002L, FINEST);
        x.fraction(1_000_000_001L, 5_000_000, "behind", 0, 1);
        x.due(0, "run", 0, 2_000_000_001L, FINEST);
        x.fraction(2_000_000_001L, FINEST, "behind", 0, 1);
        x.fraction(1, 2, "state", 0, 600, 2, 4);
        x.fraction(0, 1, "state", 0, 600, 2, 2);
        Bench y = new Bench(LINE);
        y.due(0, "run", 0, 0, FINEST);
        y.fraction(0, 1, "behind", 0, 1);
        y.fraction(0, 1, "state", 0, 0, 7, 0);
    }

    private static void heatOfStates() {
        Bench x = new Bench(COLD);
        x.fraction(100, 1, "state", 0, 100, 1, 0);
        x.due(UNSAID, "state", 0, 999_999_999L, FINEST, 0);
        x.fraction(1_000_000_001L, FINEST, "state", 0, 1_000_000_001L, FINEST, 0);
        x.fraction(600, 1, "state", 0, 700, 1, 0);
        x.fraction(11_999_999_999L, 20_000_000, "state", 0, 6_999_999_999L, FINEST, 0);
        x.due(UNSAID, "state", 0, 7_000_000_001L, FINEST, 0);
        x.due(0, "run", 0, 100, 1);
        x.due(-1, "run", 0, 999_999_999L, FINEST);
        x.due(0, "run", 0, 700, 1);
        x.due(-1, "run", 0, 7_000_000_001L, FINEST);
        Bench y = new Bench(LINE);
        y.due(0, "run", 0, 0, 1);
        y.due(-1, "run", 0, -1, FINEST);
        y.due(UNSAID, "state", 0, -1, FINEST, 0);
        y.due(0, "run", 0, 10_000_000_000L, FINEST);
        y.due(-1, "run", 0, 10_000_000_001L, FINEST);
    }

    private static void besideAPoint() {
        Bench x = new Bench(WARM);
        x.fraction(150, 1, "state", 0, 200, 1, 0);
        x.fraction(50, 1, "state", 0, 200, 1, 2);
        x.fraction(191_999_999_967L, 400_000_000, "state", 0, 5_999_999_999L, FINEST, 0);
        x.fraction(50, 1, "state", 0, 5_999_999_999L, FINEST, 2);
        x.fraction(480, 1, "state", 0, 600, 1, 0);
        x.fraction(50, 1, "state", 0, 600, 1, 2);
        x.fraction(9_600_000_001L, 20_000_000, "state", 0, 6_000_000_001L, FINEST, 0);
        x.fraction(1_000_000_001L, 20_000_000, "state", 0, 6_000_000_001L, FINEST, 2);
        x.fraction(630, 1, "state", 0, 900, 1, 0);
        x.fraction(200, 1, "state", 0, 900, 1, 2);
    }

    private static void everyStretch() {
        Bench x = new Bench(EIGHT);
        for (int i = 0; i < 8; i++) {
            for (int column = 1; column < 3; column++) {
                x.fraction(EIGHT[3 * i + column], 1, "state", 0, EIGHT[3 * i], 1, 2 * column - 2);
            }
        }
        for (int i = 0; i < 7; i++) {
            for (int column = 1; column < 3; column++) {
                int both = EIGHT[3 * i + column] + EIGHT[3 * i + 3 + column];
                boolean even = both % 2 == 0;
                x.fraction(even ? both / 2 : both, even ? 1 : 2, "state", 0, EIGHT[3 * i] + EIGHT[3 * i + 3], 2,
                        2 * column - 2);
            }
        }
        Bench steep = new Bench(STEEP);
        for (int i = 0; i < 7; i++) {
            steep.fraction(2 * i + 1, 2, "state", 0, 2 * i + 1, 2, 0);
            steep.fraction(i == 0 ? 0 : 2 * i - 1, i == 0 ? 1 : 2, "state", 0, 2 * i + 1, 2, 2);
        }
    }

    private static void wetShare() {
        Bench x = new Bench(WARM, LINE);
        x.fraction(1, 1, "state", 0, 200, 1, 4);
        x.fraction(3_999_999_999L, 4_000_000_000L, "state", 0, 2_000_000_001L, FINEST, 4);
        x.fraction(1, 2, "state", 0, 400, 1, 4);
        x.fraction(1, 4_000_000_000L, "state", 0, 5_999_999_999L, FINEST, 4);
        x.fraction(0, 1, "state", 0, 600, 1, 4);
        x.fraction(0, 1, "state", 0, 6_000_000_001L, FINEST, 4);
        x.fraction(0, 1, "state", 0, 900, 1, 4);
        x.fraction(1, 1, "state", 1, 0, 1, 4);
        x.fraction(0, 1, "state", 1, 1000, 1, 4);
    }

    /** The PRESSURES above LINE take the half, and ten elevenths of its HEATS; 10,000,001 is 11 * 909,091. */
    private static void tooFine() {
        Bench x = new Bench(LINE, new int[] {0, 0, 5, 500, 1000, 5}, new int[] {0, 0, 6, 500, 550, 6});
        x.call("part", 0, 1, 100);
        x.due(1, "run", 0, 1, 5_000_000);
        x.fraction(1, 10_000_000, "behind", 1, 1);
        x.due(0, "run", 0, 1, 5_000_001);
        x.due(0, "run", 0, 1, FINEST);
        x.due(1, "run", 0, 2, FINEST);
        x.call("set", 0, 2, 100);
        x.due(1, "run", 0, 1, 909_090);
        x.fraction(1, 999_999, "behind", 1, 1);
        x.due(0, "run", 0, 1, 909_091);
        x.due(1, "run", 0, 11, 909_091);
        x.fraction(10, 909_091, "behind", 1, 1);
        // The lower number is 11 * 10^7 ahead of lowest terms alone.
        x.due(1, "run", 0, 11, FINEST);
        x.fraction(1, 1_000_000, "behind", 1, 1);
    }

    // ---- REFUSED calls

    private static void orderOfRefusals() {
        Bench x = new Bench(LINE);
        x.due(-1, "sheet", 4, 0, -1);
        x.due(-1, "sheet", 3, 3, -1);
        x.due(1, "count", 3);
        x.due(-1, "write", 4, -1, 0);
        x.due(-2, "write", 0, -1, 0);
        x.due(-1, "run", 1, 500, 0);
        x.due(-1, "run", 1, 500, FINEST + 1);
        x.due(-2, "run", 1, 1001, 1);
        x.due(-2, "best", 0, 0);
        x.due(-1, "image", 3);
        x.due(-6, "image", 2);
        x.due(-1, "back", 3);
        x.due(-6, "back", 2);
        for (int i = 0; i < 12; i++) {
            x.plain(i, "part", 1, 0, 0);
        }
        x.due(-2, "best", 0, 12);
        x.due(-6, "best", 0, 11);
        x.due(-1, "part", 4, 0, 0);
        x.due(-1, "part", 1, 10, 0);
        x.due(-5, "part", 1, 9, 0);
        x.due(-1, "set", 11, 10, 0);
        x.due(-2, "set", 12, 9, 0);
    }

    private static void orderOfPressureRefusals() {
        Bench x = new Bench();
        x.due(-1, "pressure", 4, 2);
        x.due(-1, "pressure", 0, 9);
        x.due(-2, "pressure", 0, 8);
        x.call("sheet", 0, 2, 5);
        x.due(-3, "pressure", 0, 2);
        x.call("sheet", 0, 2, 6);
        x.due(-1, "pressure", 0, 2);
        Bench full = tenAlike();
        full.due(-5, "pressure", 0, 2);
        full.due(-3, "pressure", 0, 3);
        full.call("write", 0, 0, 1000);
        full.due(-1, "pressure", 0, 2);
        full.due(-1, "pressure", 0, 9);
        full.due(-2, "pressure", 1, 2);
        full.due(10, "count", 0);
    }

    private static void noWay() {
        Bench x = new Bench(COLD, WARM);
        x.due(-6, "image", 0);
        x.due(-6, "back", 0);
        x.parts(new int[][] {{0, 1, 100}, {2, 0, 0}});
        x.due(-6, "best", 0, 0);
        x.due(2, "run", 0, 500, 1);
        x.due(-6, "best", 0, 0);
        x.due(0, "run", 0, 100, 1);
        x.due(-6, "best", 0, 0);
        x.due(0, "count", 2);
    }

    // ---- PARTS

    private static void twelveParts() {
        Bench x = new Bench(LINE);
        for (int i = 0; i < 12; i++) {
            x.due(i, "part", 3, i + 1, 100);
            x.due(i + 1, "count", 1);
        }
        x.due(-5, "part", 3, 13, 100);
        x.due(12, "count", 1);
        x.due(-2, "set", 12, 13, 100);
        x.due(12, "run", 0, 0, 1);
        for (int i = 0; i < 12; i++) {
            x.due(i + 1, "did", i, 0);
        }
        x.due(78, "behind", 12, 1);
        x.due(0, "set", 11, 13, 100);
        x.due(12, "run", 0, 0, 1);
        x.due(79, "behind", 12, 1);
    }

    private static void kinds() {
        Bench x = new Bench();
        for (long kind : new long[] {MIN, -1, 4, MAX}) {
            x.due(-1, "part", kind, 0, 1);
        }
        x.due(0, "count", 1);
        for (int kind = 0; kind < 4; kind++) {
            x.due(kind, "part", kind, 0, 1);
        }
        x.due(4, "count", 1);
    }

    private static void pressAbove() {
        Bench x = new Bench(LINE, LINE, LINE);
        x.call("part", 0, 0, 100);
        x.due(0, "run", 1, 500, 1);
        x.call("set", 0, 1, 100);
        x.due(0, "run", 1, 500, 1);
        x.call("set", 0, 2, 100);
        x.due(1, "run", 1, 500, 1);
        x.due(2, "behind", 1, 0);
        x.call("set", 0, 3, 100);
        x.due(0, "run", 1, 500, 1);
        x.add(LINE);
        x.due(1, "run", 1, 500, 1);
        x.due(3, "behind", 1, 0);
    }

    /** Of the same ORDER there is 1 more of HEAT: share b takes 100 / b. */
    private static void pressShare() {
        Bench x = new Bench(LINE, new int[] {1, 0, 5, 1000, 999, 5}, new int[] {0, 1, 6, 999, 1000, 6});
        x.call("part", 0, 1, 100);
        for (long[] one : new long[][] {{1, 100, 1}, {2, 50, 1}, {50, 2, 1}, {99, 100, 99}, {100, 1, 1}}) {
            x.due(0, "set", 0, 1, one[0]);
            x.due(1, "run", 0, 500, 1);
            x.fraction(one[1], one[2], "did", 0, 0);
            x.fraction(one[1], one[2], "total", 0);
        }
        for (long[] one : new long[][] {{1, -100, 1}, {100, -1, 1}}) {
            x.due(0, "set", 0, 2, one[0]);
            x.due(1, "run", 0, 500, 1);
            x.fraction(one[1], one[2], "total", 0);
        }
    }

    /** By share 50 the HEAT goes out far from both ends, so that the ORDER alone can be at fault. */
    private static void pressOrder() {
        Bench x = new Bench(LINE, NARROW);
        x.call("part", 0, 1, 50);
        x.due(1, "run", 0, 200, 1);
        x.due(400, "behind", 1, 1);
        x.due(0, "run", 0, 1_999_999_997L, FINEST);
        x.due(1, "run", 0, 2_000_000_003L, FINEST);
        x.due(1, "run", 0, 800, 1);
        x.due(600, "behind", 1, 1);
        x.due(0, "run", 0, 8_000_000_003L, FINEST);
        x.due(1, "run", 0, 7_999_999_997L, FINEST);
        x.due(0, "run", 0, 399_999_999, 2_000_000);
        x.due(0, "run", 0, 1_600_000_001, 2_000_000);
        // Two POINTS, three, and as many as may be.
        int[] full = with(EIGHT, 22, 900);
        Bench y = new Bench(LINE, NARROW, WARM, full);
        y.call("part", 0, 1, 100);
        for (long[] last : new long[][] {{1, 800, 700}, {2, 630, 900}, {3, 900, 700}}) {
            y.call("set", 0, last[0], 100);
            y.due(1, "run", 0, last[1], 1);
            y.due(last[2], "behind", 1, 1);
            y.due(0, "run", 0, 10 * last[1] + 1, 10);
        }
    }

    /** By share 10 the HEAT x goes out as (5000 - 7 x) / 3: as 700, the last, from 2900/7, as 300 from 4100/7. */
    private static void pressHeat() {
        Bench x = new Bench(LINE, NARROW);
        x.call("part", 0, 1, 10);
        x.due(1, "run", 0, 2900, 7);
        x.fraction(700, 1, "behind", 1, 1);
        x.due(0, "run", 0, 289_999_997, 700_000);
        x.due(1, "run", 0, 290_000_003, 700_000);
        x.fraction(69_999_999, 100_000, "behind", 1, 1);
        x.due(1, "run", 0, 4100, 7);
        x.fraction(300, 1, "behind", 1, 1);
        x.due(0, "run", 0, 410_000_003, 700_000);
        x.due(1, "run", 0, 409_999_997, 700_000);
        x.fraction(30_000_001, 100_000, "behind", 1, 1);
    }

    private static void throatHeat() {
        Bench x = new Bench(NARROW, LINE);
        x.call("part", 1, 0, 0);
        x.due(1, "run", 1, 300, 1);
        x.due(0, "run", 1, 2_999_999_999L, FINEST);
        x.due(1, "run", 1, 3_000_000_001L, FINEST);
        x.due(1, "run", 1, 700, 1);
        x.due(0, "run", 1, 7_000_000_001L, FINEST);
        x.due(1, "run", 1, 6_999_999_999L, FINEST);
    }

    private static void heaterHeat() {
        Bench x = new Bench(COLD);
        x.call("part", 3, 100, 100);
        x.due(1, "run", 0, 600, 1);
        x.due(0, "run", 0, 6_000_000_001L, FINEST);
        x.due(1, "run", 0, 5_999_999_999L, FINEST);
        x.call("set", 0, -100, 100);
        x.due(1, "run", 0, 200, 1);
        x.due(0, "run", 0, 1_999_999_999L, FINEST);
        x.due(1, "run", 0, 2_000_000_001L, FINEST);
    }

    private static void throatBelow() {
        Bench x = new Bench(LINE, LINE, LINE);
        x.call("part", 1, 2, 0);
        x.due(0, "run", 1, 1, 3);
        x.call("set", 0, 1, 0);
        x.due(0, "run", 1, 1, 3);
        x.call("set", 0, 0, 0);
        x.due(1, "run", 1, 1, 3);
        x.due(0, "behind", 1, 0);
        x.fraction(1, 3, "behind", 1, 1);
        x.fraction(0, 1, "did", 0, 0);
        x.call("set", 0, 3, 0);
        x.due(0, "run", 2, 1, 3);
    }

    private static void throatNumber() {
        Bench x = new Bench(LINE, LINE);
        int number = 0;
        for (long b : new long[] {MIN, -1, 0, 1, 100, 101, MAX}) {
            x.due(number, "part", 1, 0, b);
            x.due(0, "set", 0, 0, b);
            x.due(1, "run", 1, 500, 1);
            x.due(500, "behind", 1, 1);
            number++;
        }
    }

    private static void coilToPoints() {
        Bench x = new Bench(COLD, WARM);
        x.call("part", 2, 0, 0);
        for (int heat : new int[] {200, 300, 600, 700, 900}) {
            x.call("set", 0, 0, 0);
            x.due(1, "run", 1, heat, 1);
            x.fraction(200, 1, "behind", 1, 1);
            x.due(1, "behind", 1, 0);
            x.call("set", 0, 1, 0);
            x.due(1, "run", 1, heat, 1);
            x.fraction(600, 1, "behind", 1, 1);
            x.due(1, "behind", 1, 0);
        }
    }

    private static void coilWarmth() {
        Bench x = new Bench(new int[] {0, 0, 0, 100, 100, 0, 1000, 1000, 1000},
                new int[] {0, 0, -200, 100, 100, -200, 1000, 1000, 1000});
        x.due(-1, "part", 2, 2, -1);
        x.due(0, "part", 2, 2, 0);
        x.due(-1, "set", 0, 2, 1001);
        x.due(0, "set", 0, 2, 1000);
        x.due(1, "run", 0, 0, 1);
        x.fraction(1000, 1, "behind", 1, 1);
        x.fraction(1000, 1, "behind", 1, 5);
        x.due(1, "run", 1, 0, 1);
        x.fraction(850, 1, "behind", 1, 1);
        x.fraction(800, 1, "behind", 1, 5);
        x.call("set", 0, 2, 999);
        x.due(1, "run", 0, 0, 1);
        x.fraction(9991, 10, "behind", 1, 1);
    }

    private static void coilEveryStretch() {
        Bench x = new Bench(EIGHT);
        x.call("part", 2, 2, 0);
        for (int i = 1; i < 8; i++) {
            x.call("set", 0, 2, EIGHT[3 * i + 2]);
            x.due(1, "run", 0, 0, 1);
            x.fraction(EIGHT[3 * i], 1, "behind", 1, 1);
        }
        // A WARMTH just ahead of POINT 3, which is 20 above POINT 2, and just behind it, with POINT 4 1 above.
        x.call("set", 0, 2, 29);
        x.due(1, "run", 0, 0, 1);
        x.fraction(295, 1, "behind", 1, 1);
        x.call("set", 0, 2, 32);
        x.due(1, "run", 0, 0, 1);
        x.fraction(27_700, 69, "behind", 1, 1);
    }

    private static void coilEnds() {
        Bench x = new Bench(WARM, new int[] {200, 150, 50, 600, 480, 50});
        x.call("part", 2, 2, 0);
        long[][] byMore = {{0, 600}, {1, 602}, {149, 898}, {150, 900}};
        for (long[] one : byMore) {
            x.call("set", 0, 2, one[0]);
            x.due(1, "run", 0, 300, 1);
            x.fraction(one[1], 1, "behind", 1, 1);
        }
        x.call("set", 0, 2, 151);
        x.due(0, "run", 0, 300, 1);
        x.call("set", 0, 2, 0);
        x.due(1, "run", 1, 300, 1);
        x.fraction(600, 1, "behind", 1, 1);
        x.call("set", 0, 2, 1);
        x.due(0, "run", 1, 300, 1);
        Bench full = new Bench(STEEP);
        full.call("part", 2, 2, 6);
        full.due(1, "run", 0, 0, 1);
        full.fraction(7, 1, "behind", 1, 1);
        full.call("set", 0, 2, 7);
        full.due(0, "run", 0, 0, 1);
    }

    private static void warmedAndCooled() {
        Bench x = new Bench(COLD);
        x.call("part", 2, 1, 0);
        x.due(1, "run", 0, 500, 1);
        x.fraction(0, 1, "total", 2);
        x.fraction(0, 1, "total", 4);
        x.due(1, "run", 0, 4_999_999_999L, FINEST);
        x.fraction(1, FINEST, "total", 2);
        x.fraction(0, 1, "total", 4);
        x.due(1, "run", 0, 5_000_000_001L, FINEST);
        x.fraction(0, 1, "total", 2);
        x.fraction(1, FINEST, "total", 4);
        x.call("clear");
        x.call("part", 3, 0, 100);
        for (long[] one : new long[][] {{-1, 0, 1}, {0, 0, 0}, {1, 1, 0}}) {
            x.call("set", 0, one[0], 100);
            x.due(1, "run", 0, 500, 1);
            x.fraction(one[1], 1, "total", 2);
            x.fraction(one[2], 1, "total", 4);
            x.fraction(0, 1, "total", 0);
        }
    }

    private static void heaterMore() {
        Bench x = new Bench(LINE);
        x.due(-1, "part", 3, -1001, 100);
        x.due(-1, "part", 3, 1001, 100);
        x.due(0, "part", 3, 1000, 100);
        x.due(1, "run", 0, 0, 1);
        x.fraction(1000, 1, "behind", 1, 1);
        x.due(0, "run", 0, 1, FINEST);
        x.due(0, "set", 0, -1000, 100);
        x.due(1, "run", 0, 1000, 1);
        x.fraction(0, 1, "behind", 1, 1);
        x.due(0, "run", 0, 9_999_999_999L, FINEST);
        x.due(0, "set", 0, 0, 100);
        x.due(1, "run", 0, 1, FINEST);
        x.fraction(1, FINEST, "behind", 1, 1);
    }

    private static void heaterWet() {
        Bench x = new Bench(LINE, COLD);
        x.due(-1, "part", 3, 0, -1);
        x.due(-1, "part", 3, 0, 101);
        x.due(0, "part", 3, 0, 100);
        x.due(1, "run", 0, 0, 1);
        for (int hundredths : new int[] {0, 1, 50, 99}) {
            long heat = 10_000_000_000L - 100_000_000L * hundredths;
            x.due(0, "set", 0, 0, hundredths);
            x.due(1, "run", 0, heat, FINEST);
            x.due(0, "run", 0, heat - 1, FINEST);
        }
        x.due(1, "run", 0, 100_000_001L, FINEST);
        x.due(0, "set", 0, 0, 0);
        x.due(1, "run", 1, 500, 1);
        x.due(1, "run", 1, 5_000_000_001L, FINEST);
        x.due(1, "run", 1, 700, 1);
        x.due(0, "run", 1, 4_999_999_999L, FINEST);
    }

    private static void heaterWetGoingOut() {
        Bench x = new Bench(LINE);
        x.call("part", 3, 500, 0);
        x.due(1, "run", 0, 500, 1);
        x.due(0, "run", 0, 4_999_999_999L, FINEST);
        x.call("set", 0, -500, 50);
        x.due(1, "run", 0, 1000, 1);
        x.due(0, "run", 0, 9_999_999_999L, FINEST);
        x.call("set", 0, -500, 49);
        x.due(0, "run", 0, 1000, 1);
    }

    // ---- RUNS

    private static void allParts() {
        Bench x = new Bench(LINE, LINE);
        for (int i = 0; i < 6; i++) {
            x.parts(new int[][] {{0, 1, 100}, {1, 0, 0}});
        }
        x.due(12, "run", 0, 500, 1);
        x.due(12, "count", 2);
        for (int i = 0; i <= 12; i++) {
            x.due(i % 2, "behind", i, 0);
        }
        x.due(UNSAID, "behind", 13, 0);
        x.due(1, "round");
    }

    private static void noParts() {
        Bench x = new Bench(LINE);
        x.due(0, "run", 0, 1, 3);
        x.due(0, "count", 2);
        x.due(1, "round");
        x.due(0, "behind", 0, 0);
        x.fraction(1, 3, "behind", 0, 1);
        x.due(UNSAID, "behind", 1, 0);
        x.due(UNSAID, "did", 0, 0);
        for (int what = 0; what < 6; what += 2) {
            x.fraction(0, 1, "total", what);
        }
        x.fraction(UNSAID, UNSAID, "total", 6);
    }

    private static void stops() {
        Bench x = new Bench(LINE);
        x.parts(new int[][] {{3, 1, 100}, {3, 2, 100}, {3, 3, 100}});
        x.due(3, "run", 0, 994, 1);
        x.due(2, "run", 0, 995, 1);
        x.due(2, "count", 2);
        x.due(998, "behind", 2, 1);
        x.due(UNSAID, "behind", 3, 1);
        x.due(2, "did", 1, 0);
        x.due(UNSAID, "did", 2, 0);
        x.due(UNSAID, "total", 0);
        x.due(0, "round");
        x.due(2, "run", 0, 997, 1);
        x.due(1, "run", 0, 998, 1);
        x.due(1, "run", 0, 999, 1);
        x.due(0, "run", 0, 1000, 1);
        x.due(0, "count", 2);
        x.due(1000, "behind", 0, 1);
        x.due(UNSAID, "behind", 1, 1);
        // From 1000 the second could be gone through, but the first ends it.
        x.call("set", 1, -5, 100);
        x.due(0, "run", 0, 1000, 1);
    }

    /** Each PRESS takes the half. */
    private static void stopsTooFine() {
        Bench x = new Bench(LINE, new int[] {0, 0, 5, 500, 1000, 5}, new int[] {0, 0, 6, 250, 1000, 6});
        x.parts(new int[][] {{0, 1, 100}, {0, 2, 100}, {2, 0, 0}});
        x.due(3, "run", 0, 1, 2_500_000);
        x.fraction(1, 10_000_000, "behind", 2, 1);
        x.due(1, "run", 0, 1, 2_500_001);
        x.fraction(1, 5_000_002, "behind", 1, 1);
        x.due(UNSAID, "behind", 2, 1);
        x.due(1, "run", 0, 1, 5_000_000);
        x.due(0, "run", 0, 1, 5_000_001);
        x.due(0, "round");
        x.due(UNSAID, "total", 0);
    }

    private static void comesRound() {
        Bench x = new Bench(COLD, COLD);
        x.call("part", 2, 1, 0);
        x.due(1, "run", 0, 500, 1);
        x.due(1, "round");
        x.due(1, "run", 0, 5_000_000_000L, FINEST);
        x.due(1, "round");
        x.due(1, "run", 0, 4_999_999_999L, FINEST);
        x.due(0, "round");
        x.due(1, "run", 0, 5_000_000_001L, FINEST);
        x.due(0, "round");
        x.call("clear");
        x.call("part", 1, 0, 0);
        x.due(1, "run", 1, 500, 1);
        x.due(0, "round");
        x.due(0, "run", 0, 500, 1);
        x.due(0, "round");
        x.call("part", 0, 1, 100);
        x.due(2, "run", 1, 500, 1);
        x.due(1, "round");
        x.call("part", 0, 1, 100);
        x.due(2, "run", 1, 500, 1);
        x.due(0, "round");
    }

    private static void sums() {
        Bench x = Bench.ofRing();
        x.parts(new int[][] {{0, 1, 50}, {2, 0, 0}, {1, 0, 0}, {2, 1, 0}, {3, -7, 100}, {3, 7, 100}});
        x.due(10, "run", 0, 500, 1);
        x.fraction(140 + 280, 1, "total", 0);
        x.fraction(300 + 300 + 7, 1, "total", 2);
        x.fraction(440 + 580 + 7, 1, "total", 4);
        x.fraction(607, 420, "total", 6);
    }

    /** From 500 PRESSURES 1, 2, 3 take WORK 1/500, 0, -1/500. */
    private static void workAboveNone() {
        Bench x = new Bench(COLD, new int[] {499, 499, 50, 1000, 999, 50}, new int[] {499, 499, 50, 999, 999, 50},
                new int[] {499, 499, 50, 998, 999, 50});
        pressAndBack(x, 1, 100, 0);
        x.parts(new int[][] {{3, 1, 100}, {3, -1, 100}});
        x.due(5, "run", 0, 500, 1);
        x.fraction(1, 500, "total", 0);
        x.fraction(500, 1, "total", 6);
        x.call("set", 0, 2, 100);
        x.due(5, "run", 0, 500, 1);
        x.due(1, "round");
        x.fraction(0, 1, "total", 0);
        x.fraction(1, 1, "total", 2);
        x.fraction(UNSAID, UNSAID, "total", 6);
        x.call("set", 0, 3, 100);
        x.due(5, "run", 0, 500, 1);
        x.due(1, "round");
        x.fraction(-1, 500, "total", 0);
        x.fraction(501, 500, "total", 2);
        x.fraction(UNSAID, UNSAID, "total", 6);
        x.call("set", 0, 1, 100);
        x.due(5, "run", 0, 501, 1);
        x.due(0, "round");
        x.due(1, "total", 2);
        x.fraction(UNSAID, UNSAID, "total", 6);
    }

    /**
     * A HEAT has a lower number with a prime power of at most 10^7, and primes above 1200 come from the
     * beginning alone: so 10^12 can't be, nor the three behind it. 10^12 - 1 and 10^12 + 4 can.
     */
    private static void untold() {
        Bench x = new Bench(new int[] {0, 0, 0, 171, 110, 0, 491, 181, 518}, new int[] {287, 3, 5, 679, 300, 5});
        x.parts(new int[][] {{2, 2, 1}, {0, 1, 78}});
        x.due(2, "run", 0, 16_274_511, 1_000_001);
        x.due(259, "behind", 1, 2);
        x.due(999_999, "behind", 2, 2);
        x.fraction(329_216_000, 999_999, "total", 0);
        x.fraction(40_233_946_100L, 259_000_259, "total", 2);
        x.fraction(0, 1, "total", 4);
        Bench y = new Bench(new int[] {0, 0, 0, 283, 385, 0, 436, 563, 894}, new int[] {271, 236, 5, 781, 630, 5});
        y.parts(new int[][] {{2, 2, 1}, {0, 1, 40}});
        y.due(2, "run", 0, 354_855_835, 8_517_017);
        y.due(298, "behind", 1, 2);
        y.due(117_412, "behind", 2, 2);
        for (int what = 0; what < 8; what++) {
            y.due(UNSAID, "total", what);
        }
        y.fraction(53_115_605, 117_412, "did", 1, 0);
        y.due(0, "round");
    }

    /**
     * Three PRESSES, whose lower numbers have the product 10^12 - 16 in one ring and 10^12 + 408 in the
     * other. A SHARE that isn't told is none, for BEST and JOINED too.
     */
    private static void untoldRound() {
        int[] home = {0, 0, 0, 400, 500, 0, 1000, 900, 100};
        Bench x = new Bench(home, new int[] {410, 499, 50, 513, 658, 50}, new int[] {417, 499, 51, 551, 666, 51},
                new int[] {412, 499, 52, 819, 998, 52});
        threePresses(x, 53, 89, 64);
        x.due(1, "round");
        x.fraction(60_117_301_399_375L, 999_999_999_984L, "total", 0);
        x.fraction(100, 1, "total", 2);
        x.fraction(160_117_301_397_775L, 999_999_999_984L, "total", 4);
        x.fraction(3_999_999_999_936L, 2_404_692_055_975L, "total", 6);
        x.due(1, "best", 0, 0);
        Bench y = new Bench(home, new int[] {414, 499, 50, 508, 966, 50}, new int[] {135, 143, 51, 811, 1000, 51},
                new int[] {419, 499, 52, 850, 923, 52});
        threePresses(y, 71, 83, 100);
        y.due(1, "round");
        for (int what = 0; what < 8; what++) {
            y.due(UNSAID, "total", what);
        }
        y.due(0, "image", 0);
        y.due(UNSAID, "joined", 0, 0, 0);
        // PRESSURE 1 takes the least WORK.
        y.due(2, "best", 0, 0);
    }

    private static void threePresses(Bench x, int one, int two, int three) {
        pressAndBack(x, 1, one, 0);
        pressAndBack(x, 2, two, 0);
        pressAndBack(x, 3, three, 0);
        x.parts(new int[][] {{3, 100, 100}, {3, -100, 100}});
        x.due(11, "run", 0, 400, 1);
    }

    /**
     * An ORDER has a lower number with 5^14 at most, and primes above 1000 come from the HEAT ahead
     * alone, at most 10^7 in all: so from 10^15 to 10^15 + 63 none can be. 10^15 - 1 and 10^15 + 64 can.
     */
    private static void orderMade() {
        Bench x = new Bench(new int[] {719, 182, 0, 750, 619, 0}, new int[] {0, 44, 5, 369, 61, 5, 517, 874, 6});
        x.call("part", 0, 1, 74);
        x.due(1, "run", 0, 2_144_589_943L, 2_906_161);
        x.fraction(40_457_860_770L, 90_090_991, "behind", 0, 3);
        x.fraction(20_448_336_977L, 344_096_559, "behind", 1, 3);
        x.fraction(-389_651_604_287_039_233L, 999_999_999_999_999L, "did", 0, 2);
        Bench y = new Bench(new int[] {10, 377, 0, 977, 590, 0}, new int[] {236, 254, 5, 238, 889, 5, 965, 918, 6});
        y.call("part", 0, 1, 92);
        y.due(1, "run", 0, 106_902_651, 486_976);
        y.fraction(199_264_489_367L, 470_905_792, "behind", 0, 3);
        y.fraction(3_651_105_894_115L, 4_106_978_578L, "behind", 1, 3);
        y.fraction(UNSAID, UNSAID, "did", 0, 2);
        y.due(5_649_214, "behind", 1, 2);
    }

    private static void bestKinds() {
        Bench x = new Bench(COLD, WARM);
        x.parts(new int[][] {{0, 1, 100}, {2, 0, 0}, {1, 0, 0}, {3, -1, 100}, {2, 1, 0}});
        x.due(5, "run", 0, 500, 1);
        for (int other : new int[] {1, 3, 4}) {
            x.due(-2, "best", other, other);
            x.due(-2, "best", 0, other);
            x.due(-2, "best", other, 0);
        }
        x.due(1, "best", 0, 0);
        x.due(0, "best", 2, 2);
        x.due(-6, "best", 0, 2);
        x.due(-6, "best", 2, 0);
    }

    /** Above COLD nine PRESSURES, of which each makes the ring's SHARE 300 by its number here. */
    private static Bench nineAbove(int... works) {
        Bench x = new Bench(COLD);
        for (int work : works) {
            x.add(200, 150, 50, 500 + work, 500, 50);
        }
        x.parts(new int[][] {{0, 1, 100}, {2, 0, 0}, {1, 0, 0}, {2, 1, 0}});
        x.call("run", 0, 500, 1);
        return x;
    }

    private static void bestOfAll() {
        Bench rising = nineAbove(90, 80, 70, 60, 50, 40, 30, 20, 10);
        rising.due(10, "count", 0);
        rising.due(9, "best", 0, 0);
        rising.fraction(30, 1, "total", 6);
        rising.due(9, "behind", 1, 0);
        Bench falling = nineAbove(10, 20, 30, 40, 50, 60, 70, 80, 90);
        falling.call("set", 0, 9, 100);
        falling.due(1, "best", 0, 0);
        falling.fraction(30, 1, "total", 6);
        // The THROAT can go to 0 alone, whatever it had.
        falling.call("set", 2, 9, 0);
        falling.due(0, "best", 2, 2);
        falling.due(0, "behind", 3, 0);
        // A PRESS and a THROAT between COLD and the highest: by share 50 PRESSURE 2 takes less WORK.
        Bench both = new Bench(COLD, new int[] {150, 120, 20, 510, 500, 20, 700, 600, 120},
                new int[] {160, 130, 30, 505, 500, 30, 700, 600, 130},
                new int[] {250, 200, 60, 600, 500, 60, 900, 800, 200});
        both.parts(new int[][] {{0, 0, 50}, {0, 3, 100}, {2, 0, 0}, {1, 0, 0}, {1, 0, 0}, {2, 1, 0}});
        both.call("run", 0, 500, 1);
        both.due(2, "best", 0, 3);
        both.due(6, "count", 2);
        both.due(2, "behind", 1, 0);
        both.due(2, "behind", 4, 0);
    }

    private static void bestWithShare() {
        // WORK 0 and WORK below 0 have no SHARE; neither has what isn't ROUND.
        Bench x = nineAbove(0, -1);
        x.due(-6, "best", 0, 0);
        x.add(200, 150, 50, 800, 500, 50);
        x.due(3, "best", 0, 0);
        x.fraction(1, 1, "total", 6);
        x.call("run", 0, 499, 1);
        x.due(-6, "best", 0, 0);
        // WARMED by nothing: SHARE 0 is one.
        Bench y = new Bench(COLD, WARM);
        y.parts(new int[][] {{0, 1, 100}, {2, 0, 0}, {1, 0, 0}});
        y.due(3, "run", 0, 200, 1);
        y.due(1, "best", 0, 0);
        y.fraction(0, 1, "total", 6);
        // From its beginning: not from where the RUN ended.
        Bench z = nineAbove(10);
        z.call("part", 3, -1, 100);
        z.call("run", 0, 500, 1);
        z.due(-6, "best", 0, 0);
        z.call("part", 3, 1, 100);
        z.due(1, "best", 0, 0);
        z.due(500, "behind", 0, 1);
    }

    private static void bestAlike() {
        nineAbove(50, 50, 50, 50, 50, 50, 50, 50, 50).due(1, "best", 0, 0);
        nineAbove(51, 50, 50, 51, 50, 52, 51, 50, 51).due(2, "best", 0, 0);
        nineAbove(51, 51, 51, 51, 51, 51, 51, 51, 50).due(9, "best", 0, 0);
        nineAbove(50, 51, 51, 51, 51, 51, 51, 51, 50).due(1, "best", 0, 0);
        // From the greatest on, some of them close: 299/497 is above 300/499 by 101 of 248003.
        int[][] falling = {{301, 100}, {300, 100}, {299, 100}, {101, 100}, {100, 100}, {100, 101}, {299, 497},
            {300, 499}, {100, 299}, {100, 300}, {100, 301}, {99, 300}, {1, 499}};
        for (int i = 1; i < falling.length; i++) {
            bestOfTwo(1, falling[i - 1], falling[i]);
            bestOfTwo(2, falling[i], falling[i - 1]);
            bestOfTwo(1, falling[i], falling[i]);
        }
        bestOfTwo(1, new int[] {300, 100}, new int[] {150, 50});
    }

    /** By PRESSURES 1 and 2 the ring is WARMED by the one number and takes the other of WORK. */
    private static void bestOfTwo(int want, int[] one, int[] two) {
        Bench x = new Bench(COLD, new int[] {500 - one[0], 150, 50, 500 + one[1], 500, 50},
                new int[] {500 - two[0], 150, 50, 500 + two[1], 500, 50});
        x.parts(new int[][] {{0, 1, 100}, {2, 0, 0}, {1, 0, 0}, {2, 1, 0}});
        x.call("run", 0, 500, 1);
        x.due(want, "best", 0, 0);
    }

    // ---- JOINED

    /** SHARES 1000000000/488000061 from PRESSURE 0 and 1000000001/500000000 from PRESSURE 3. */
    private static void joinedUpper() {
        Bench x = new Bench(new int[] {0, 0, 0, 400, 500, 0, 597, 900, 61}, new int[] {397, 374, 50, 470, 999, 50},
                new int[] {403, 487, 51, 808, 999, 51}, new int[] {0, 0, 0, 400, 500, 0, 593, 900, 1000},
                new int[] {412, 499, 50, 537, 632, 50}, new int[] {413, 499, 51, 463, 642, 51});
        x.call("part", 2, 1, 0);
        pressAndBack(x, 1, 100, 0);
        pressAndBack(x, 2, 100, 0);
        x.parts(new int[][] {{3, -48, 100}, {2, 2, 1}});
        x.due(9, "run", 0, 24_597, 61);
        x.fraction(1_000_000_000, 488_000_061, "total", 6);
        x.due(0, "image", 0);
        x.call("clear");
        x.call("part", 2, 1, 0);
        pressAndBack(x, 4, 100, 3);
        pressAndBack(x, 5, 100, 3);
        x.parts(new int[][] {{3, -52, 100}, {2, 2, 3}});
        x.due(9, "run", 3, 400_579, 1000);
        x.fraction(1_000_000_001, 500_000_000, "total", 6);
        x.due(0, "image", 1);
        x.fraction(1_000_000_000_000_000_000L, 1_214_144_181_536_003_721L, "joined", 0, 0, 0);
        onlyTheFirstIsTold(x);
    }

    /** SHARES 3532343/1000000000 by PRESSURES 1 to 3 and 3532343/1000000001 by 4 to 6. */
    private static void joinedLower() {
        Bench x = new Bench(new int[] {0, 0, 0, 400, 500, 0, 1000, 900, 100}, new int[] {493, 499, 50, 655, 648, 50},
                new int[] {493, 499, 51, 637, 650, 51}, new int[] {494, 499, 52, 660, 656, 52},
                new int[] {493, 499, 50, 683, 648, 50}, new int[] {493, 499, 51, 574, 650, 51},
                new int[] {494, 499, 52, 696, 656, 52});
        for (int image = 0; image < 2; image++) {
            x.call("clear");
            for (int p = 1; p <= 3; p++) {
                pressAndBack(x, p + 3 * image, 100, 0);
            }
            x.parts(new int[][] {{3, 1, 100}, {3, -1, 100}});
            x.due(11, "run", 0, 400, 1);
            x.fraction(3_532_343, 1_000_000_000 + image, "total", 6);
            x.due(0, "image", image);
        }
        x.fraction(12_477_447_069_649L, 1_007_064_686_000_000_000L, "joined", 0, 0, 0);
        onlyTheFirstIsTold(x);
    }

    private static void onlyTheFirstIsTold(Bench x) {
        x.fraction(UNSAID, UNSAID, "joined", 0, 1, 0);
        x.fraction(UNSAID, UNSAID, "joined", 1, 0, 0);
        x.fraction(UNSAID, UNSAID, "joined", 1, 1, 0);
    }
}
