import java.util.Set;

/**
 * A ColdHouse under test, asked by the names of its calls. Each call that is asked with due() comes
 * behind another one that leaves a status that isn't due, so the status() behind it tells what this
 * call did to it.
 */
final class Bench {
    static final long UNSAID = Long.MIN_VALUE;
    static final long MIN = Integer.MIN_VALUE;
    static final long MAX = Integer.MAX_VALUE;
    static final long FINEST = 10_000_000;

    /** ORDER is HEAT from 0 to 1000, all of it wet but the last. */
    static final int[] LINE = {0, 0, 0, 1000, 1000, 0};
    static final int[] COLD = {100, 100, 0, 500, 500, 0, 700, 600, 100};
    static final int[] WARM = {200, 150, 50, 600, 480, 50, 900, 630, 200};

    private static final int MOST_CALLS = 512;
    private static final Set<String> REFUSABLE =
            Set.of("sheet", "write", "pressure", "part", "set", "run", "best", "image", "back");

    private static int passed = 0;
    private static int failed = 0;
    private static String words = "";

    private final ColdHouse house = new ColdHouse();
    private int calls = 0;

    /** A bench with these PRESSURES, each given as its POINTS. */
    Bench(int[]... tables) {
        for (int[] table : tables) {
            add(table);
        }
    }

    /** PRESS, COIL to boiling, THROAT, COIL to dry: from 500 at PRESSURE 0 it comes ROUND with SHARE 15/7. */
    static Bench ofRing() {
        Bench x = new Bench(COLD, WARM);
        x.parts(new int[][] {{0, 1, 100}, {2, 0, 0}, {1, 0, 0}, {2, 1, 0}});
        return x;
    }

    // ---- sentences and their ends

    static void sentence(String quoted, Runnable test) {
        words = quoted;
        int before = passed + failed;
        test.run();
        if (passed + failed == before) {
            say("nothing was asked");
        }
    }

    static void end() {
        System.out.println(passed + " passed, " + failed + " failed");
        if (failed != 0) {
            System.exit(1);
        }
    }

    private static void say(String what) {
        failed++;
        System.out.println("\"" + words + "\": " + what);
    }

    private static void check(String call, long got, long want) {
        if (got == want) {
            passed++;
        } else {
            say(call + " answered " + got + ", due is " + want);
        }
    }

    // ---- making

    void sheetOf(int s, int sort, int... numbers) {
        call("sheet", s, sort, numbers.length);
        for (int i = 0; i < numbers.length; i++) {
            call("write", s, i, numbers[i]);
        }
    }

    /** A PRESSURE of these POINTS, by way of SHEET 3. */
    void add(int... table) {
        sheetOf(3, 2, table);
        call("pressure", 3, table.length / 3);
    }

    void parts(int[][] parts) {
        for (int[] part : parts) {
            call("part", part[0], part[1], part[2]);
        }
    }

    // ---- asking

    /** The answer, and what status() is behind it. */
    void due(long want, String name, long... numbers) {
        boolean refusable = REFUSABLE.contains(name);
        int ahead = refusable && want == -1 ? -2 : -1;
        spoilStatus(ahead);
        plain(want, name, numbers);
        check("status() behind " + text(name, numbers), call("status"), refusable ? Math.min(0, want) : ahead);
    }

    /** Both numbers of a fraction, the last number of the call telling which. */
    void fraction(long up, long low, String name, long... numbers) {
        due(up, name, numbers);
        long[] second = numbers.clone();
        second[second.length - 1]++;
        due(low, name, second);
    }

    /** The answer alone, with no other call ahead of it or behind it. */
    void plain(long want, String name, long... numbers) {
        check(text(name, numbers), call(name, numbers), want);
    }

    int calls() {
        return calls;
    }

    private void spoilStatus(int to) {
        if (to == -1) {
            call("sheet", -1, 0, 0);
        } else {
            call("set", -1, 0, 0);
        }
    }

    private static String text(String name, long... numbers) {
        StringBuilder text = new StringBuilder(name).append('(');
        for (int i = 0; i < numbers.length; i++) {
            text.append(i == 0 ? "" : ", ").append(numbers[i]);
        }
        return text.append(')').toString();
    }

    private static int at(long[] numbers, int i) {
        return Math.toIntExact(numbers[i]);
    }

    long call(String name, long... n) {
        calls++;
        if (calls > MOST_CALLS) {
            throw new IllegalStateException("nothing is promised of call " + calls);
        }
        switch (name) {
            case "sheet": return house.sheet(at(n, 0), at(n, 1), at(n, 2));
            case "write": return house.write(at(n, 0), at(n, 1), at(n, 2));
            case "pressure": return house.pressure(at(n, 0), at(n, 1));
            case "point": return house.point(at(n, 0), at(n, 1), at(n, 2));
            case "state": return house.state(at(n, 0), n[1], n[2], at(n, 3));
            case "part": return house.part(at(n, 0), at(n, 1), at(n, 2));
            case "set": return house.set(at(n, 0), at(n, 1), at(n, 2));
            case "clear": return house.clear();
            case "run": return house.run(at(n, 0), n[1], n[2]);
            case "behind": return house.behind(at(n, 0), at(n, 1));
            case "did": return house.did(at(n, 0), at(n, 1));
            case "total": return house.total(at(n, 0));
            case "round": return house.round();
            case "best": return house.best(at(n, 0), at(n, 1));
            case "image": return house.image(at(n, 0));
            case "back": return house.back(at(n, 0));
            case "joined": return house.joined(at(n, 0), at(n, 1), at(n, 2));
            case "count": return house.count(at(n, 0));
            case "status": return house.status();
            default: throw new IllegalStateException("no such call: " + name);
        }
    }
}
