/**
 * A bench for machines that carry warmth from cold to warm by a stuff that boils and is pressed.
 * Words in capitals are the document's.
 *
 * No arithmetic here can leave a long: a HEAT that is kept has a lower number of at most 10^7 and
 * lies in 0 .. 1000, and differences of POINTS are at most 1200; each place that multiplies says
 * how far its numbers can grow.
 */
public final class ColdHouse {
    public static final int NONE = -1;
    public static final long UNSAID = -9223372036854775808L;

    private static final int CANNOT_BE = -1;
    private static final int NO_SUCH = -2;
    private static final int NO_PLACE = -3;
    private static final int BAD_LENGTH = -4;
    private static final int NO_ROOM = -5;
    private static final int NO_WAY = -6;

    private static final int PRESS = 0;
    private static final int THROAT = 1;
    private static final int COIL = 2;
    private static final int HEATER = 3;

    private static final int SHEETS = 4;
    private static final int SHEET_ROOM = 40;
    private static final int PRESSURES = 10;
    private static final int LEAST_POINTS = 2;
    private static final int MOST_POINTS = 8;
    private static final int MOST_PARTS = 12;
    private static final int IMAGES = 3;
    private static final int NO_POINT = -1000;

    private static final long FINEST = 10_000_000L;
    private static final long TOTAL_LIMIT = 1_000_000_000_000L;
    private static final long COMMON_LIMIT = 1_000_000_000_000_000L;
    private static final long JOIN_LIMIT = 1_000_000_000L;

    private final Sheet[] sheets = new Sheet[SHEETS];
    private final Stuff stuff = new Stuff();
    private final Ring ring = new Ring();
    private final Walk latest = new Walk();
    private final Image[] images = new Image[IMAGES];
    private final Ring trialRing = new Ring();
    private final Walk trial = new Walk();
    private final State asked = new State();
    private final Ratio answer = new Ratio();
    private final Ratio ahead = new Ratio();
    private final Ratio after = new Ratio();
    private int refusedBy = 0;

    public ColdHouse() {
        for (int s = 0; s < SHEETS; s++) {
            sheets[s] = new Sheet();
        }
        for (int k = 0; k < IMAGES; k++) {
            images[k] = new Image();
        }
    }

    public int sheet(int s, int sort, int n) {
        Sheet sheet = sheetAt(s);
        if (sheet == null || !within(sort, 0, 2) || n > SHEET_ROOM) {
            return refuse(CANNOT_BE);
        }
        if (n < 0) {
            sheet.there = false;
            return refuse(BAD_LENGTH);
        }
        sheet.begin(sort, n);
        return accept(n);
    }

    public int write(int s, int i, int v) {
        Sheet sheet = sheetAt(s);
        if (sheet == null) {
            return refuse(CANNOT_BE);
        }
        if (!sheet.there) {
            return refuse(NO_SUCH);
        }
        if (!within(i, 0, sheet.length - 1)) {
            return refuse(NO_PLACE);
        }
        sheet.keep(i, v);
        return accept(0);
    }

    public int pressure(int s, int n) {
        Sheet sheet = sheetAt(s);
        if (sheet == null || !within(n, LEAST_POINTS, MOST_POINTS)) {
            return refuse(CANNOT_BE);
        }
        if (!sheet.there) {
            return refuse(NO_SUCH);
        }
        if (sheet.length < 3 * n) {
            return refuse(NO_PLACE);
        }
        Table table = new Table(sheet.row, n);
        if (!table.canBe()) {
            return refuse(CANNOT_BE);
        }
        int number = stuff.take(table);
        return number == NONE ? refuse(NO_ROOM) : accept(number);
    }

    public int point(int pressure, int i, int what) {
        Table table = stuff.tableAt(pressure);
        if (table == null) {
            return NO_POINT;
        }
        if (i == -1 && what == 0) {
            return table.size;
        }
        if (!within(i, 0, table.size - 1)) {
            return NO_POINT;
        }
        switch (what) {
            case 0: return table.heat[i];
            case 1: return table.order[i];
            case 2: return table.warmth[i];
            default: return NO_POINT;
        }
    }

    public long state(int pressure, long up, long low, int what) {
        Table table = stuff.tableAt(pressure);
        if (table == null || !canBeLower(low) || !table.holds(up, low) || !within(what, 0, 5)) {
            return UNSAID;
        }
        asked.begin(pressure, up, low);
        boolean told = true;
        switch (what / 2) {
            case 0:
                told = table.between(table.heat, table.order, 0, asked.heat, answer);
                break;
            case 1:
                told = table.between(table.heat, table.warmth, 0, asked.heat, answer);
                break;
            default:
                table.wetShare(asked.heat, answer);
        }
        return told ? answer.side(what % 2) : UNSAID;
    }

    public int part(int kind, int a, int b) {
        if (!numbersCanBe(kind, a, b)) {
            return refuse(CANNOT_BE);
        }
        int number = ring.append(kind, a, b);
        return number == NONE ? refuse(NO_ROOM) : accept(number);
    }

    public int set(int part, int a, int b) {
        // Which numbers can be hangs on the KIND, so a PART that isn't there has no wrong numbers.
        if (!ring.has(part)) {
            return refuse(NO_SUCH);
        }
        if (!numbersCanBe(ring.kind[part], a, b)) {
            return refuse(CANNOT_BE);
        }
        ring.a[part] = a;
        ring.b[part] = b;
        return accept(0);
    }

    public int clear() {
        int were = ring.size;
        ring.size = 0;
        return were;
    }

    public int run(int pressure, long up, long low) {
        if (!canBeLower(low)) {
            return refuse(CANNOT_BE);
        }
        Table table = stuff.tableAt(pressure);
        if (table == null) {
            return refuse(NO_SUCH);
        }
        if (!table.holds(up, low)) {
            return refuse(CANNOT_BE);
        }
        asked.begin(pressure, up, low);
        latest.goThrough(ring, asked, stuff);
        return accept(latest.steps);
    }

    public long behind(int i, int what) {
        if (!latest.made || !within(i, 0, latest.steps) || !within(what, 0, 6)) {
            return UNSAID;
        }
        State state = latest.states[i];
        Table table = stuff.tableAt(state.pressure);
        if (table == null) {
            return UNSAID;
        }
        if (what == 0) {
            return state.pressure;
        }
        int side = (what - 1) % 2;
        if (what <= 2) {
            return state.heat.side(side);
        }
        int[] column = what <= 4 ? table.order : table.warmth;
        return table.between(table.heat, column, 0, state.heat, answer) ? answer.side(side) : UNSAID;
    }

    public long did(int i, int what) {
        if (!latest.made || !within(i, 0, latest.steps - 1) || !within(what, 0, 3)) {
            return UNSAID;
        }
        State came = latest.states[i];
        State went = latest.states[i + 1];
        // Two HEATS have a common lower number of at most 10^14: the limit never hides this one.
        boolean told = what <= 1
                ? answer.putSum(went.heat, -1, came.heat)
                : changesPressure(latest.kinds[i]) && orderMade(came, went);
        return told ? answer.side(what % 2) : UNSAID;
    }

    public long total(int what) {
        if (!latest.made || !latest.told || !within(what, 0, 7)) {
            return UNSAID;
        }
        int side = what % 2;
        switch (what / 2) {
            case 0: return latest.work.side(side);
            case 1: return latest.warmed.side(side);
            case 2: return latest.cooled.side(side);
            default: return latest.shared ? latest.share.side(side) : UNSAID;
        }
    }

    public int round() {
        if (!latest.made) {
            return NONE;
        }
        return latest.comesRound() ? 1 : 0;
    }

    public int best(int i, int k) {
        if (!ring.canTurn(i) || !ring.canTurn(k)) {
            return refuse(NO_SUCH);
        }
        if (!latest.made) {
            return refuse(NO_WAY);
        }
        int found = NONE;
        trialRing.copy(ring);
        for (int p = 0; p < stuff.size; p++) {
            trialRing.a[i] = p;
            trialRing.a[k] = p;
            trial.goThrough(trialRing, latest.states[0], stuff);
            if (trial.shared && (found == NONE || trial.share.above(answer))) {
                found = p;
                answer.copy(trial.share);
            }
        }
        if (found == NONE) {
            return refuse(NO_WAY);
        }
        ring.a[i] = found;
        ring.a[k] = found;
        latest.goThrough(ring, latest.states[0], stuff);
        return accept(found);
    }

    public int image(int k) {
        Image image = imageAt(k);
        if (image == null) {
            return refuse(CANNOT_BE);
        }
        if (!latest.made) {
            return refuse(NO_WAY);
        }
        image.kept = true;
        image.ring.copy(ring);
        image.beginning.copy(latest.states[0]);
        return accept(0);
    }

    public int back(int k) {
        Image image = imageAt(k);
        if (image == null) {
            return refuse(CANNOT_BE);
        }
        if (!image.kept) {
            return refuse(NO_WAY);
        }
        ring.copy(image.ring);
        latest.goThrough(ring, image.beginning, stuff);
        return accept(latest.steps);
    }

    public long joined(int i, int k, int what) {
        Image first = imageAt(i);
        Image second = imageAt(k);
        if (first == null || second == null || !first.kept || !second.kept || !within(what, 0, 1)) {
            return UNSAID;
        }
        trial.goThrough(first.ring, first.beginning, stuff);
        if (!trial.shared || !canBeJoined(trial.share)) {
            return UNSAID;
        }
        ahead.copy(trial.share);
        trial.goThrough(second.ring, second.beginning, stuff);
        if (!trial.shared || !canBeJoined(trial.share)) {
            return UNSAID;
        }
        after.copy(trial.share);
        // All four numbers are at most 10^9, so the sum is at most 3 * 10^18.
        answer.put(ahead.up * after.up,
                ahead.up * after.low + after.up * ahead.low + ahead.low * after.low);
        return answer.side(what);
    }

    public int count(int what) {
        switch (what) {
            case 0: return stuff.size;
            case 1: return ring.size;
            case 2: return latest.made ? latest.steps : NONE;
            case 3: return sheetsThere();
            default: return NONE;
        }
    }

    public int status() {
        return refusedBy;
    }

    private int refuse(int code) {
        refusedBy = code;
        return code;
    }

    private int accept(int result) {
        refusedBy = 0;
        return result;
    }

    private Sheet sheetAt(int s) {
        return within(s, 0, SHEETS - 1) ? sheets[s] : null;
    }

    private Image imageAt(int k) {
        return within(k, 0, IMAGES - 1) ? images[k] : null;
    }

    private int sheetsThere() {
        int there = 0;
        for (int s = 0; s < SHEETS; s++) {
            there += sheets[s].there ? 1 : 0;
        }
        return there;
    }

    private boolean orderMade(State came, State went) {
        Table from = stuff.tableAt(came.pressure);
        Table to = stuff.tableAt(went.pressure);
        return from != null && to != null
                && from.between(from.heat, from.order, 0, came.heat, ahead)
                && to.between(to.heat, to.order, 0, went.heat, after)
                && answer.putSum(after, -1, ahead);
    }

    private static boolean within(int v, int least, int most) {
        return v >= least && v <= most;
    }

    private static boolean canBeLower(long low) {
        return low >= 1 && low <= FINEST;
    }

    private static boolean canBeJoined(Ratio share) {
        return share.up <= JOIN_LIMIT && share.low <= JOIN_LIMIT;
    }

    private static boolean changesPressure(int kind) {
        return kind == PRESS || kind == THROAT;
    }

    private static boolean numbersCanBe(int kind, int a, int b) {
        switch (kind) {
            case PRESS: return within(a, 0, PRESSURES - 1) && within(b, 1, 100);
            case THROAT: return within(a, 0, PRESSURES - 1);
            case COIL: return within(a, 0, 1) || a == 2 && within(b, 0, 1000);
            case HEATER: return within(a, -1000, 1000) && within(b, 0, 100);
            default: return false;
        }
    }

    /** A fraction in lowest terms, the lower number above 0; filled again and again, to make few objects. */
    private static final class Ratio {
        // A Euclid of two longs takes fewer than a hundred steps.
        private static final int STEPS = 200;

        long up = 0;
        long low = 1;

        void put(long newUp, long newLow) {
            long shared = greatest(Math.abs(newUp), newLow);
            if (newLow <= 0 || shared <= 0) {
                up = 0;
                low = 1;
                return;
            }
            up = newUp / shared;
            low = newLow / shared;
        }

        void copy(Ratio other) {
            up = other.up;
            low = other.low;
        }

        long side(int which) {
            return which == 0 ? up : low;
        }

        /** Becomes one + sign * other; false, and as it was, if their common lower number is above 10^15. */
        boolean putSum(Ratio one, int sign, Ratio other) {
            long lower = common(one.low, other.low, COMMON_LIMIT);
            if (lower <= 0) {
                return false;
            }
            put(one.over(lower) + sign * other.over(lower), lower);
            return true;
        }

        /** The upper number that it has with this lower one, a multiple of its own. */
        long over(long lower) {
            return low <= 0 ? 0 : up * (lower / low);
        }

        /**
         * Whether this is greater than the other, both at least 0. Cross products of SHARES would
         * leave a long, so whole parts are compared, then what is left turned over.
         */
        boolean above(Ratio other) {
            long a = up;
            long b = low;
            long c = other.up;
            long d = other.low;
            boolean turned = false;
            for (int i = 0; i < STEPS && b > 0 && d > 0; i++) {
                long whole = a / b;
                long otherWhole = c / d;
                if (whole != otherWhole) {
                    return turned != (whole > otherWhole);
                }
                long rest = a % b;
                long otherRest = c % d;
                a = b;
                b = rest;
                c = d;
                d = otherRest;
                turned = !turned;
            }
            // Turned over, the one with nothing left would be beyond all numbers.
            return b != d && turned != (b == 0);
        }

        static long greatest(long a, long b) {
            for (int i = 0; i < STEPS && b != 0; i++) {
                long rest = a % b;
                a = b;
                b = rest;
            }
            return a;
        }

        /** The least common multiple of two numbers above 0, or 0 if it is above the limit. */
        static long common(long a, long b, long limit) {
            long shared = greatest(a, b);
            if (shared <= 0 || b <= 0) {
                return 0;
            }
            long rest = a / shared;
            return rest > limit / b ? 0 : rest * b;
        }
    }

    /** A SHEET; its row is made once and used for every sort and length. */
    private static final class Sheet {
        final int[] row = new int[SHEET_ROOM];
        boolean there = false;
        int sort = 0;
        int length = 0;

        void begin(int newSort, int newLength) {
            there = true;
            sort = newSort;
            length = newLength;
            for (int i = 0; i < SHEET_ROOM; i++) {
                row[i] = 0;
            }
        }

        void keep(int i, int v) {
            if (!within(i, 0, SHEET_ROOM - 1)) {
                return;
            }
            switch (sort) {
                case 0:
                    row[i] = (byte) v;
                    break;
                case 1:
                    row[i] = (short) v;
                    break;
                default:
                    row[i] = v;
            }
        }
    }

    /** The POINTS of one PRESSURE. */
    private static final class Table {
        final int[] heat = new int[MOST_POINTS];
        final int[] order = new int[MOST_POINTS];
        final int[] warmth = new int[MOST_POINTS];
        final int size;

        Table(int[] row, int points) {
            size = Math.max(LEAST_POINTS, Math.min(points, MOST_POINTS));
            for (int i = 0; i < size && 3 * i + 2 < row.length; i++) {
                heat[i] = row[3 * i];
                order[i] = row[3 * i + 1];
                warmth[i] = row[3 * i + 2];
            }
        }

        boolean canBe() {
            for (int i = 0; i < size; i++) {
                if (!within(heat[i], 0, 1000) || !within(order[i], 0, 1000)
                        || !within(warmth[i], -200, 1000) || i > 0 && !follows(i)) {
                    return false;
                }
            }
            return true;
        }

        private boolean follows(int i) {
            boolean rightWarmth = i == 1 ? warmth[1] == warmth[0] : warmth[i] > warmth[i - 1];
            return rightWarmth && heat[i] > heat[i - 1] && order[i] > order[i - 1];
        }

        /** Whether a HEAT lies among the POINTS; its lower number is at most 10^15. */
        boolean holds(long up, long low) {
            return low > 0 && up >= heat[0] * low && up <= heat[size - 1] * low;
        }

        /**
         * Reads one column by another from POINT first on; false, if the value lies beyond it. A
         * value of a lower number up to 10^10 (an ORDER) leaves all numbers below 10^17.
         */
        boolean between(int[] from, int[] to, int first, Ratio at, Ratio out) {
            for (int i = first; i + 1 < size; i++) {
                long span = from[i + 1] - from[i];
                long past = at.up - from[i] * at.low;
                if (span > 0 && past >= 0 && past <= span * at.low) {
                    out.put(to[i] * span * at.low + past * (to[i + 1] - to[i]), span * at.low);
                    return true;
                }
            }
            return false;
        }

        void wetShare(Ratio at, Ratio out) {
            out.put(Math.max(0, heat[1] * at.low - at.up), (heat[1] - heat[0]) * at.low);
        }
    }

    private static final class State {
        final Ratio heat = new Ratio();
        int pressure = 0;

        void begin(int newPressure, long up, long low) {
            pressure = newPressure;
            heat.put(up, low);
        }

        void copy(State other) {
            pressure = other.pressure;
            heat.copy(other.heat);
        }

        boolean same(State other) {
            return pressure == other.pressure && heat.up == other.heat.up && heat.low == other.heat.low;
        }
    }

    /** The PARTS in their order. */
    private static final class Ring {
        final int[] kind = new int[MOST_PARTS];
        final int[] a = new int[MOST_PARTS];
        final int[] b = new int[MOST_PARTS];
        int size = 0;

        boolean has(int i) {
            return within(i, 0, size - 1);
        }

        boolean canTurn(int i) {
            return has(i) && changesPressure(kind[i]);
        }

        /** The number of the new PART; NONE without room. */
        int append(int newKind, int newA, int newB) {
            if (size >= MOST_PARTS) {
                return NONE;
            }
            kind[size] = newKind;
            a[size] = newA;
            b[size] = newB;
            size++;
            return size - 1;
        }

        void copy(Ring other) {
            size = other.size;
            for (int i = 0; i < MOST_PARTS; i++) {
                kind[i] = other.kind[i];
                a[i] = other.a[i];
                b[i] = other.b[i];
            }
        }
    }

    private static final class Image {
        final Ring ring = new Ring();
        final State beginning = new State();
        boolean kept = false;
    }

    /** All PRESSURES, and the way of a STATE through one PART by them. */
    private static final class Stuff {
        final Table[] tables = new Table[PRESSURES];
        final Ratio aim = new Ratio();
        final Ratio more = new Ratio();
        int size = 0;

        /** The number of the new PRESSURE; NONE without room. */
        int take(Table table) {
            if (size >= PRESSURES) {
                return NONE;
            }
            tables[size] = table;
            size++;
            return size - 1;
        }

        Table tableAt(int pressure) {
            return within(pressure, 0, size - 1) ? tables[pressure] : null;
        }

        /** Fills what goes out of PART i; false, if it can't be gone through or goes out too FINE. */
        boolean passes(Ring ring, int i, State in, State out) {
            int kind = ring.kind[i];
            out.pressure = changesPressure(kind) ? ring.a[i] : in.pressure;
            Table from = tableAt(in.pressure);
            Table to = tableAt(out.pressure);
            if (from == null || to == null) {
                return false;
            }
            boolean passed;
            switch (kind) {
                case PRESS:
                    passed = out.pressure > in.pressure && press(from, to, ring.b[i], in.heat, out.heat);
                    break;
                case THROAT:
                    passed = out.pressure < in.pressure;
                    out.heat.copy(in.heat);
                    break;
                case COIL:
                    passed = coil(to, ring.a[i], ring.b[i], out.heat);
                    break;
                default:
                    out.heat.put(in.heat.up + ring.a[i] * in.heat.low, in.heat.low);
                    passed = isDryEnough(to, ring.b[i], out.heat);
            }
            return passed && out.heat.low <= FINEST && to.holds(out.heat.up, out.heat.low);
        }

        /**
         * The lower numbers of both HEATS divide the one that came times two differences of POINTS,
         * so at most 10^13; times the share 10^15, and the upper numbers stay at 2 * 10^18.
         */
        private boolean press(Table from, Table to, int share, Ratio in, Ratio out) {
            if (!from.between(from.heat, from.order, 0, in, aim)
                    || !to.between(to.order, to.heat, 0, aim, more)
                    || !more.putSum(more, -1, in)) {
                return false;
            }
            more.put(more.up * 100, more.low * share);
            return out.putSum(in, 1, more);
        }

        private boolean coil(Table table, int to, int warmer, Ratio out) {
            if (to == 2 && warmer > 0) {
                aim.put(table.warmth[1] + warmer, 1);
                return table.between(table.warmth, table.heat, 1, aim, out);
            }
            // With two POINTS alone there is nothing behind POINT 1 to read between.
            out.put(to == 0 ? table.heat[0] : table.heat[1], 1);
            return true;
        }

        private boolean isDryEnough(Table table, int hundredths, Ratio heat) {
            table.wetShare(heat, more);
            return more.up * 100 <= hundredths * more.low;
        }
    }

    /** A RUN, with all that is told of it later: PARTS may be others by then. */
    private static final class Walk {
        final State[] states = new State[MOST_PARTS + 1];
        final int[] kinds = new int[MOST_PARTS];
        final Ratio work = new Ratio();
        final Ratio warmed = new Ratio();
        final Ratio cooled = new Ratio();
        final Ratio share = new Ratio();
        int steps = 0;
        boolean made = false;
        boolean stopped = false;
        boolean told = false;
        boolean shared = false;

        Walk() {
            for (int i = 0; i <= MOST_PARTS; i++) {
                states[i] = new State();
            }
        }

        void goThrough(Ring ring, State beginning, Stuff stuff) {
            states[0].copy(beginning);
            made = true;
            steps = 0;
            stopped = false;
            for (int i = 0; i < ring.size && i < MOST_PARTS && !stopped; i++) {
                kinds[i] = ring.kind[i];
                stopped = !stuff.passes(ring, i, states[i], states[i + 1]);
                steps += stopped ? 0 : 1;
            }
            sumUp();
        }

        boolean comesRound() {
            return !stopped && states[0].same(states[steps]);
        }

        /** Sums over 12 PARTS with a lower number of 10^12 are at most 1.2 * 10^16. */
        private void sumUp() {
            long lower = stopped ? 0 : commonLower();
            told = lower > 0;
            shared = false;
            if (!told) {
                return;
            }
            long workUp = 0;
            long warmedUp = 0;
            long cooledUp = 0;
            for (int i = 0; i < steps; i++) {
                long more = states[i + 1].heat.over(lower) - states[i].heat.over(lower);
                if (kinds[i] == PRESS) {
                    workUp += more;
                } else if (more > 0) {
                    warmedUp += more;
                } else {
                    cooledUp -= more;
                }
            }
            work.put(workUp, lower);
            warmed.put(warmedUp, lower);
            cooled.put(cooledUp, lower);
            shared = comesRound() && workUp > 0;
            if (shared) {
                share.put(warmedUp, workUp);
            }
        }

        private long commonLower() {
            long lower = 1;
            for (int i = 0; i <= steps && lower > 0; i++) {
                lower = Ratio.common(lower, states[i].heat.low, TOTAL_LIMIT);
            }
            return lower;
        }
    }
}
