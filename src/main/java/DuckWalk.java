import java.util.Arrays;

/** A duck that walks down a board; the document's promises 1 to 46 say what each call answers. */
public final class DuckWalk {
    public static final int BAD = -1, FULL = -2, FINDING = -3, STATE = -4, SPENT = -6, NONE = -9;

    private static final int NOTHING = 1, BEYOND = 2, UNLIKE = 3, NOUGHT = 4, SIZE = 5;
    private static final int ROWS = 6, TEXTS = 4, WALKERS = 4, BOARDS = 4, KEPT = 3;
    private static final int ROW_MOST = 60, TEXT_MOST = 80;
    private static final int SLOPES = 100, PACES = 100, BUMP_STEPS = 100, BUMPS_MOST = 8;
    private static final int GO_MOST = 400, WALK_MOST = 10000, BEAR_STEPS = 200;
    private static final int WIDE = 0, ROUND = 1, HIGH = 2, LEGS = 3, LEFT = 4, RIGHT = 5, SIZES = 6;
    private static final int GOES = 0, RESTS = 1, FELL = 2;
    private static final int ANY = 0, EVEN = 1, LIMPING = 2, MUDDLED = 3, STOPPING = 4, FALLING = 5;
    private static final int RUNNING = 6, FOURS = 7;

    private final Row[] rows = new Row[ROWS];
    private final Script[] scripts = new Script[TEXTS];
    private final Duck[] ducks = new Duck[WALKERS];
    private final Plank[] planks = new Plank[BOARDS];
    private final Course course = new Course();
    private final Course[] kept = new Course[KEPT];
    private final Reader reader = new Reader();
    private final Trial trial = new Trial();
    private final Course second = new Course();
    private final Guess guess = new Guess();
    private final int[] findingCounts = new int[SIZE + 1];
    private int latestFinding = 0;
    private int latestAsked = 0;
    private long upperNumber = 0;
    private long lowerNumber = 1;

    // ======== promise 1

    public DuckWalk() {
        for (int i = 0; i < ROWS; i++) {
            rows[i] = new Row();
        }
        for (int i = 0; i < TEXTS; i++) {
            scripts[i] = new Script();
        }
        for (int i = 0; i < WALKERS; i++) {
            ducks[i] = new Duck();
        }
        for (int i = 0; i < BOARDS; i++) {
            planks[i] = new Plank();
        }
        for (int i = 0; i < KEPT; i++) {
            kept[i] = new Course();
        }
    }

    // ======== what the calls share

    private static boolean isOutside(int v, int least, int most) {
        return v < least || v > most;
    }

    private static boolean noRow(int r) {
        return isOutside(r, 0, ROWS - 1);
    }

    private static boolean noText(int t) {
        return isOutside(t, 0, TEXTS - 1);
    }

    private static boolean noWalker(int k) {
        return isOutside(k, 0, WALKERS - 1);
    }

    private static boolean noBoard(int k) {
        return isOutside(k, 0, BOARDS - 1);
    }

    private static boolean noSlope(int s) {
        return isOutside(s, 0, SLOPES - 1);
    }

    private static boolean noPace(int p) {
        return isOutside(p, 0, PACES - 1);
    }

    private static boolean noPair(int walker, int board, int pace) {
        return noWalker(walker) || noBoard(board) || noPace(pace);
    }

    private static boolean noGoing(int walker, int board, int slope, int pace) {
        return noPair(walker, board, pace) || noSlope(slope);
    }

    private int found(int f) {
        latestFinding = f;
        findingCounts[f]++;
        return FINDING;
    }

    private int tell(int v) {
        latestAsked = v;
        return 1;
    }

    /** Sets the trial by a WALKER and a BOARD without its BUMPS; false if one of them is missing. */
    private boolean isReady(int walker, int board) {
        if (!ducks[walker].there || !planks[board].there) {
            return false;
        }
        trial.course.duck.take(ducks[walker]);
        trial.course.plank.clear();
        trial.course.plank.rub = planks[board].rub;
        return true;
    }

    private void tellFraction(int part, int whole) {
        int by = Math.max(1, divisor(part, whole));
        upperNumber = part / by;
        lowerNumber = Math.max(1, whole / by);
    }

    /** The greatest number that divides both; two ints never need as many as 64 divisions. */
    private static int divisor(int a, int b) {
        int x = Math.abs(a);
        int y = Math.abs(b);
        for (int n = 0; n < 64 && y != 0; n++) {
            int rest = x % y;
            x = y;
            y = rest;
        }
        return x;
    }

    // ======== promises 2 to 7: rows

    public int row(int r, int n) {
        if (noRow(r) || n > ROW_MOST) {
            return BAD;
        }
        if (n < 0) {
            return found(SIZE);
        }
        rows[r].renew(n);
        return n;
    }

    public int lay(int r, int i, int v) {
        if (noRow(r)) {
            return BAD;
        }
        Row row = rows[r];
        if (row.isMissing()) {
            return found(NOTHING);
        }
        if (!row.has(i)) {
            return found(BEYOND);
        }
        int was = row.places[i];
        row.places[i] = v;
        return tell(was);
    }

    public int at(int r, int i) {
        if (noRow(r)) {
            return BAD;
        }
        Row row = rows[r];
        if (row.isMissing()) {
            return found(NOTHING);
        }
        if (!row.has(i)) {
            return found(BEYOND);
        }
        return tell(row.places[i]);
    }

    public int tear(int r) {
        if (noRow(r)) {
            return BAD;
        }
        if (rows[r].isMissing()) {
            return found(NOTHING);
        }
        rows[r].size = -1;
        return 1;
    }

    public int copy(int r, int i, int to, int j, int n) {
        if (noRow(r) || noRow(to)) {
            return BAD;
        }
        if (n < 0) {
            return found(SIZE);
        }
        if (rows[r].isMissing() || rows[to].isMissing()) {
            return found(NOTHING);
        }
        if (!rows[r].hasSpan(i, n) || !rows[to].hasSpan(j, n)) {
            return found(BEYOND);
        }
        System.arraycopy(rows[r].places, i, rows[to].places, j, n);
        return 1;
    }

    public int mean(int r) {
        if (noRow(r)) {
            return BAD;
        }
        Row row = rows[r];
        if (row.isMissing()) {
            return found(NOTHING);
        }
        if (row.size == 0) {
            return found(NOUGHT);
        }
        return tell((int) (row.sum() / row.size));
    }

    // ======== promises 8 to 10: texts

    public int text(int t, int n) {
        if (noText(t) || n > TEXT_MOST) {
            return BAD;
        }
        if (n < 0) {
            return found(SIZE);
        }
        scripts[t].renew(n);
        return n;
    }

    public int put(int t, int i, int v) {
        if (noText(t)) {
            return BAD;
        }
        Script script = scripts[t];
        if (script.isMissing()) {
            return found(NOTHING);
        }
        if (!script.has(i)) {
            return found(BEYOND);
        }
        int was = script.bytes[i];
        script.bytes[i] = (byte) v;
        return was + 1000;
    }

    public int fault(int t, boolean board) {
        if (noText(t)) {
            return BAD;
        }
        if (scripts[t].isMissing()) {
            return found(NOTHING);
        }
        return board ? reader.readPlank(scripts[t]) : reader.readDuck(scripts[t]);
    }

    // ======== promises 11 to 15: walkers, boards

    public int walker(int k, int t) {
        if (noWalker(k) || noText(t)) {
            return BAD;
        }
        if (scripts[t].isMissing()) {
            return found(NOTHING);
        }
        if (reader.readDuck(scripts[t]) != NONE) {
            return STATE;
        }
        ducks[k].take(reader.duck);
        ducks[k].there = true;
        return Integer.bitCount(ducks[k].untold);
    }

    public int board(int k, int t) {
        if (noBoard(k) || noText(t)) {
            return BAD;
        }
        if (scripts[t].isMissing()) {
            return found(NOTHING);
        }
        if (reader.readPlank(scripts[t]) != NONE) {
            return STATE;
        }
        planks[k].take(reader.plank);
        planks[k].there = true;
        return reader.bumps;
    }

    public int about(int k, int what) {
        if (noWalker(k) || isOutside(what, 0, SIZES)) {
            return BAD;
        }
        if (!ducks[k].there) {
            return found(NOTHING);
        }
        return tell(ducks[k].value(what));
    }

    public int rub(int k, int step) {
        if (noBoard(k) || isOutside(step, 0, BUMP_STEPS - 1)) {
            return BAD;
        }
        if (!planks[k].there) {
            return found(NOTHING);
        }
        tell(planks[k].bumpsOf(step));
        return planks[k].rub;
    }

    public int wax(int k, int foot, int v) {
        if (noWalker(k) || isOutside(foot, 0, 1) || isOutside(v, 0, 9)) {
            return BAD;
        }
        if (!ducks[k].there) {
            return found(NOTHING);
        }
        int was = ducks[k].sizes[LEFT + foot];
        ducks[k].sizes[LEFT + foot] = v;
        return was;
    }

    // ======== promises 16 to 23: walks

    public int walk(int walker, int board, int slope, int pace, int foot) {
        if (noGoing(walker, board, slope, pace) || isOutside(foot, 0, 1)) {
            return BAD;
        }
        if (!ducks[walker].there || !planks[board].there) {
            return found(NOTHING);
        }
        course.duck.take(ducks[walker]);
        course.plank.take(planks[board]);
        course.begin(slope, pace, foot);
        course.there = true;
        return course.duck.gain(slope, foot);
    }

    public int go(int n) {
        if (isOutside(n, 0, GO_MOST)) {
            return BAD;
        }
        if (!course.there) {
            return STATE;
        }
        if (course.steps + n > WALK_MOST) {
            return SPENT;
        }
        return course.strideOn(n);
    }

    public int told(int what) {
        if (isOutside(what, 0, 6)) {
            return BAD;
        }
        if (!course.there) {
            return STATE;
        }
        return tell(course.value(what));
    }

    public int tocks(int n, int r) {
        if (isOutside(n, 0, ROW_MOST) || noRow(r)) {
            return BAD;
        }
        if (!course.there) {
            return STATE;
        }
        if (course.steps + n > WALK_MOST) {
            return SPENT;
        }
        rows[r].renew(n);
        int done = 0;
        while (done < n && course.stride()) {
            rows[r].places[done] = course.pace;
            done++;
        }
        return done;
    }

    public int tilt(int s) {
        if (noSlope(s)) {
            return BAD;
        }
        if (!course.there) {
            return STATE;
        }
        int was = course.slope;
        course.slope = s;
        return was;
    }

    public int keep(int k) {
        if (isOutside(k, 0, KEPT - 1)) {
            return BAD;
        }
        if (!course.there) {
            return STATE;
        }
        kept[k].take(course);
        return course.steps;
    }

    public int on(int k) {
        if (isOutside(k, 0, KEPT - 1)) {
            return BAD;
        }
        if (!kept[k].there) {
            return found(NOTHING);
        }
        course.take(kept[k]);
        return course.steps;
    }

    public int turns() {
        if (!course.there) {
            return STATE;
        }
        int turn = course.duck.sizes[RIGHT] - course.duck.sizes[LEFT];
        tell(turn == 0 ? NONE : 360 / Math.max(1, divisor(turn, 360)));
        return Math.floorMod(course.steps * turn, 360);
    }

    // ======== promises 24 to 28: goings, slopes, beginnings

    public int going(int walker, int board, int slope, int pace) {
        if (noGoing(walker, board, slope, pace)) {
            return BAD;
        }
        if (!isReady(walker, board)) {
            return found(NOTHING);
        }
        trial.find(slope, pace);
        tell(trial.trip);
        return trial.kind;
    }

    public int mark(int walker, int board, int slope, int pace, int kind) {
        if (noGoing(walker, board, slope, pace) || isOutside(kind, EVEN, FOURS)) {
            return BAD;
        }
        if (!isReady(walker, board)) {
            return found(NOTHING);
        }
        trial.find(slope, pace);
        if (!trial.isOf(kind)) {
            return found(UNLIKE);
        }
        return kind == MUDDLED ? trial.unlikePaces(slope, pace) : trial.tells(kind);
    }

    public int lines(int walker, int board, int pace, int kind) {
        if (noPair(walker, board, pace) || isOutside(kind, ANY, FOURS)) {
            return BAD;
        }
        if (!isReady(walker, board)) {
            return found(NOTHING);
        }
        int lines = 0;
        int first = NONE;
        for (int slope = SLOPES - 1; slope >= 0; slope--) {
            trial.find(slope, pace);
            if (trial.isOf(kind)) {
                lines++;
                first = slope;
            }
        }
        tell(first);
        return lines;
    }

    public int begins(int walker, int board, int slope) {
        if (noGoing(walker, board, slope, 0)) {
            return BAD;
        }
        if (!isReady(walker, board)) {
            return found(NOTHING);
        }
        int begins = 0;
        int first = NONE;
        for (int pace = PACES - 1; pace >= 0; pace--) {
            if (trial.walksWell(slope, pace)) {
                begins++;
                first = pace;
            }
        }
        tell(first);
        return begins;
    }

    public int mends(int walker, int board, int slope, int pace, int d) {
        if (noGoing(walker, board, slope, pace) || isOutside(d, 1, 20)) {
            return BAD;
        }
        if (!isReady(walker, board)) {
            return found(NOTHING);
        }
        if (!trial.walksWell(slope, pace)) {
            return found(UNLIKE);
        }
        Course jolted = trial.course;
        int even = trial.least;
        jolted.begin(slope, even + d, 0);
        for (int n = 1; n <= GO_MOST && jolted.stride(); n++) {
            if (jolted.pace == even) {
                return n;
            }
        }
        return NONE;
    }

    // ======== promises 29 and 30: the form, the wax

    public int wide(int walker, int board, int pace) {
        if (noPair(walker, board, pace)) {
            return BAD;
        }
        if (!isReady(walker, board)) {
            return found(NOTHING);
        }
        int widest = -1;
        int form = 0;
        for (int round = 1; round <= 9; round++) {
            for (int high = 1; high <= 9; high++) {
                trial.course.duck.sizes[ROUND] = round;
                trial.course.duck.sizes[HIGH] = high;
                int span = trial.span(pace);
                if (span > widest) {
                    widest = span;
                    form = 10 * round + high;
                }
            }
        }
        tell(widest);
        return form;
    }

    public int mend(int walker, int board, int slope, int pace) {
        if (noGoing(walker, board, slope, pace)) {
            return BAD;
        }
        if (!isReady(walker, board)) {
            return found(NOTHING);
        }
        for (int wax = 0; wax <= 18; wax++) {
            for (int left = Math.max(0, wax - 9); left <= Math.min(9, wax); left++) {
                trial.course.duck.sizes[LEFT] = left;
                trial.course.duck.sizes[RIGHT] = wax - left;
                if (trial.walksWell(slope, pace)) {
                    tell(trial.least);
                    return 10 * left + wax - left;
                }
            }
        }
        return NONE;
    }

    // ======== promises 31 and 32: the slope or the lead, by tocks

    public int limp(int walker, int board, int r) {
        int refusal = refusalOfTocks(walker, board, r);
        if (refusal != 0) {
            return refusal;
        }
        guess.search(trial.course, rows[r]);
        tell(guess.least);
        return guess.first;
    }

    public int odds(int walker, int board, int r) {
        int refusal = refusalOfTocks(walker, board, r);
        if (refusal != 0) {
            return refusal;
        }
        guess.search(trial.course, rows[r]);
        tellFraction(guess.leading, guess.pairs);
        return guess.pairs;
    }

    /** 0 if TOCKS can be looked at; the trial is set by the WALKER and the BOARD then. */
    private int refusalOfTocks(int walker, int board, int r) {
        if (noWalker(walker) || noBoard(board) || noRow(r)) {
            return BAD;
        }
        if (rows[r].isMissing() || !isReady(walker, board)) {
            return found(NOTHING);
        }
        if (rows[r].size < 2) {
            return found(SIZE);
        }
        for (int i = 0; i < rows[r].size; i++) {
            if (noPace(rows[r].places[i])) {
                return found(UNLIKE);
            }
        }
        return 0;
    }

    // ======== promises 33 to 35: parts, makers, drawings

    public int part(int walker, int board, int pace, int which) {
        if (noPair(walker, board, pace) || isOutside(which, WIDE, LEGS)) {
            return BAD;
        }
        if (!isReady(walker, board)) {
            return found(NOTHING);
        }
        int whole = trial.span(pace);
        trial.course.duck.sizes[which] = 1;
        int less = trial.span(pace);
        tell(less);
        return 100 + whole - less;
    }

    public int made(int walker, int board, int slope, int pace) {
        if (noGoing(walker, board, slope, pace)) {
            return BAD;
        }
        if (!isReady(walker, board)) {
            return found(NOTHING);
        }
        int[] sizes = ducks[walker].sizes;
        int all = 0;
        int well = 0;
        for (int n = 0; n < 27; n++) {
            int wide = sizes[WIDE] + n / 9 - 1;
            int round = sizes[ROUND] + n / 3 % 3 - 1;
            int high = sizes[HIGH] + n % 3 - 1;
            if (isOutside(wide, 1, 9) || isOutside(round, 1, 9) || isOutside(high, 1, 9)) {
                continue;
            }
            trial.course.duck.shape(wide, round, high);
            all++;
            if (trial.walksWell(slope, pace)) {
                well++;
            }
        }
        tellFraction(well, all);
        return all;
    }

    public int would(int walker, int board, int slope, int pace) {
        if (noGoing(walker, board, slope, pace)) {
            return BAD;
        }
        if (!isReady(walker, board)) {
            return found(NOTHING);
        }
        Duck drawn = ducks[walker];
        if (Integer.bitCount(drawn.untold) > 3) {
            return SPENT;
        }
        int well = 0;
        int first = NONE;
        for (int way = drawn.ways() - 1; way >= 0; way--) {
            trial.course.duck.tellUntold(way);
            if (trial.walksWell(slope, pace)) {
                well++;
                first = trial.course.duck.asNumber();
            }
        }
        tell(first);
        return well;
    }

    // ======== promises 36 to 39: yards, pushes, jolts, two walkers

    public int yard(int walker, int board, int slope, int pace, int d) {
        if (noGoing(walker, board, slope, pace) || isOutside(d, 1, 2000)) {
            return BAD;
        }
        if (!isReady(walker, board)) {
            return found(NOTHING);
        }
        Course goer = trial.course;
        goer.begin(slope, pace, 0);
        for (int n = 1; n <= GO_MOST && goer.stride(); n++) {
            if (goer.went >= d) {
                tell(goer.lost);
                return n;
            }
        }
        return NONE;
    }

    public int push(int walker, int board, int pace) {
        if (noPair(walker, board, pace)) {
            return BAD;
        }
        if (!isReady(walker, board)) {
            return found(NOTHING);
        }
        int least = leastPush(ducks[walker], pace, true);
        if (least != NONE) {
            tell(leastPush(ducks[walker], pace, false));
        }
        return least;
    }

    /** On both FEET until it WALKS well, or on FOOT 0 alone until it neither STOPS nor FALLS. */
    private int leastPush(Duck pushed, int pace, boolean both) {
        int[] sizes = trial.course.duck.sizes;
        for (int v = 1; v <= 99; v++) {
            // A push counts in GAIN just as WAX beneath the FOOT does.
            sizes[LEFT] = pushed.sizes[LEFT] + v;
            sizes[RIGHT] = pushed.sizes[RIGHT] + (both ? v : 0);
            trial.find(0, pace);
            boolean ends = trial.isOf(STOPPING) || trial.isOf(FALLING);
            if (both ? trial.isOf(EVEN) : !ends) {
                return v;
            }
        }
        return NONE;
    }

    public int bears(int walker, int board, int slope, int pace, int t) {
        if (noGoing(walker, board, slope, pace) || isOutside(t, 0, BUMP_STEPS - 1)) {
            return BAD;
        }
        if (!isReady(walker, board)) {
            return found(NOTHING);
        }
        if (!bearsBump(slope, pace, t, 0)) {
            return NONE;
        }
        int most = 99;
        while (most > 0 && !bearsBump(slope, pace, t, most)) {
            most--;
        }
        return most;
    }

    private boolean bearsBump(int slope, int pace, int t, int d) {
        Course goer = trial.course;
        goer.plank.bumps[t] = d;
        goer.begin(slope, pace, 0);
        goer.strideOn(BEAR_STEPS);
        return goer.end == GOES;
    }

    public int meets(int walker, int other, int board, int slope, int pace) {
        if (noGoing(walker, board, slope, pace) || noWalker(other)) {
            return BAD;
        }
        if (!ducks[other].there || !isReady(walker, board)) {
            return found(NOTHING);
        }
        second.duck.take(ducks[other]);
        second.plank.take(trial.course.plank);
        trial.course.begin(slope, pace, 0);
        second.begin(slope, pace, 0);
        for (int n = 1; n <= GO_MOST; n++) {
            trial.course.stride();
            second.stride();
            if (trial.course.end != GOES || second.end != GOES) {
                return NONE;
            }
            if (trial.course.pace == second.pace) {
                return n;
            }
        }
        return NONE;
    }

    // ======== promises 40 to 46: what is told

    public int asked() {
        return latestAsked;
    }

    public long upper() {
        return upperNumber;
    }

    public long lower() {
        return lowerNumber;
    }

    public int count(int what) {
        if (isOutside(what, 0, 6)) {
            return BAD;
        }
        return countOf(what);
    }

    private int countOf(int what) {
        switch (what) {
            case 0:
                return countDucks(false);
            case 1:
                return countPlanks();
            case 2:
                return countDucks(true);
            case 3:
                return course.there ? course.steps : 0;
            case 4:
                return countKept();
            case 5:
                return countRows();
            default:
                return countScripts();
        }
    }

    private int countDucks(boolean drawings) {
        int n = 0;
        for (int i = 0; i < WALKERS; i++) {
            if (ducks[i].there && (!drawings || ducks[i].untold != 0)) {
                n++;
            }
        }
        return n;
    }

    private int countPlanks() {
        int n = 0;
        for (int i = 0; i < BOARDS; i++) {
            n += planks[i].there ? 1 : 0;
        }
        return n;
    }

    private int countKept() {
        int n = 0;
        for (int i = 0; i < KEPT; i++) {
            n += kept[i].there ? 1 : 0;
        }
        return n;
    }

    private int countRows() {
        int n = 0;
        for (int i = 0; i < ROWS; i++) {
            n += rows[i].isMissing() ? 0 : 1;
        }
        return n;
    }

    private int countScripts() {
        int n = 0;
        for (int i = 0; i < TEXTS; i++) {
            n += scripts[i].isMissing() ? 0 : 1;
        }
        return n;
    }

    public int finding() {
        return latestFinding;
    }

    public int findings(int f) {
        if (isOutside(f, NOTHING, SIZE)) {
            return BAD;
        }
        return findingCounts[f];
    }

    public long digest() {
        long h = 17;
        for (int what = 0; what <= 6; what++) {
            h = 31 * h + countOf(what);
        }
        for (int i = 0; i < WALKERS; i++) {
            h = ducks[i].digestOn(h);
        }
        for (int i = 0; i < BOARDS; i++) {
            h = planks[i].digestOn(h);
        }
        h = course.digestOn(h);
        for (int i = 0; i < ROWS; i++) {
            h = rows[i].digestOn(h);
        }
        for (int i = 0; i < TEXTS; i++) {
            h = scripts[i].digestOn(h);
        }
        return h;
    }

    // ======== the classes inside

    /** A ROW; its size is -1 while it is missing. */
    private static final class Row {
        final int[] places = new int[ROW_MOST];
        int size = -1;

        boolean isMissing() {
            return size < 0;
        }

        boolean has(int i) {
            return i >= 0 && i < size;
        }

        boolean hasSpan(int i, int n) {
            return i >= 0 && i <= size && n <= size - i;
        }

        void renew(int n) {
            Arrays.fill(places, 0);
            size = n;
        }

        long sum() {
            long sum = 0;
            for (int i = 0; i < size; i++) {
                sum += places[i];
            }
            return sum;
        }

        long digestOn(long before) {
            long h = 31 * before + size;
            for (int i = 0; i < size; i++) {
                h = 31 * h + places[i];
            }
            return h;
        }
    }

    /** A TEXT; its size is -1 while it is missing. */
    private static final class Script {
        private static final int BEHIND = 1000;

        final byte[] bytes = new byte[TEXT_MOST];
        int size = -1;

        boolean isMissing() {
            return size < 0;
        }

        boolean has(int i) {
            return i >= 0 && i < size;
        }

        void renew(int n) {
            Arrays.fill(bytes, (byte) 32);
            size = n;
        }

        /** The byte at a place; behind the end a number that no byte has. */
        int sign(int i) {
            return has(i) ? bytes[i] : BEHIND;
        }

        /** The figure at a place; -1 if there is none. */
        int figure(int i) {
            int sign = sign(i);
            return isOutside(sign, '0', '9') ? -1 : sign - '0';
        }

        long digestOn(long before) {
            long h = 31 * before + size;
            for (int i = 0; i < size; i++) {
                h = 31 * h + bytes[i];
            }
            return h;
        }
    }

    /** A WALKER: its sizes by WIDE .. RIGHT, and by bits which of the first four are not told. */
    private static final class Duck {
        final int[] sizes = new int[SIZES];
        int untold = 0;
        boolean there = false;

        void clear() {
            Arrays.fill(sizes, 0, LEFT, 5);
            Arrays.fill(sizes, LEFT, SIZES, 0);
            untold = 0;
        }

        void take(Duck other) {
            System.arraycopy(other.sizes, 0, sizes, 0, SIZES);
            untold = other.untold;
        }

        void shape(int wide, int round, int high) {
            sizes[WIDE] = wide;
            sizes[ROUND] = round;
            sizes[HIGH] = high;
        }

        boolean isUntold(int which) {
            return (untold >> which & 1) != 0;
        }

        /** In how many ways what is not told may be told. */
        int ways() {
            int ways = 1;
            for (int which = WIDE; which <= LEGS; which++) {
                ways *= isUntold(which) ? 9 : 1;
            }
            return ways;
        }

        /** Tells what is not told in one of the ways: they stand as their numbers do. */
        void tellUntold(int way) {
            int rest = way;
            for (int which = LEGS; which >= WIDE; which--) {
                if (isUntold(which)) {
                    sizes[which] = 1 + rest % 9;
                    rest /= 9;
                }
            }
        }

        int asNumber() {
            return 1000 * sizes[WIDE] + 100 * sizes[ROUND] + 10 * sizes[HIGH] + sizes[LEGS];
        }

        int value(int what) {
            return isOutside(what, 0, SIZES - 1) ? untold : sizes[what];
        }

        int gain(int slope, int foot) {
            return slope * sizes[LEGS] / 10 + sizes[foot == 0 ? LEFT : RIGHT];
        }

        int damp() {
            return Math.max(1, 8 + 2 * sizes[ROUND] - sizes[HIGH]);
        }

        /** The highest PACE at which it does not fall. */
        int limit() {
            return 20 + 8 * sizes[WIDE];
        }

        long digestOn(long before) {
            if (!there) {
                return 31 * before - 1;
            }
            long h = before;
            for (int what = 0; what <= SIZES; what++) {
                h = 31 * h + value(what);
            }
            return h;
        }
    }

    /** A BOARD: its RUB, and all BUMPS of each STEP together. */
    private static final class Plank {
        final int[] bumps = new int[BUMP_STEPS];
        int rub = 1;
        boolean there = false;

        void clear() {
            Arrays.fill(bumps, 0);
            rub = 1;
        }

        void take(Plank other) {
            System.arraycopy(other.bumps, 0, bumps, 0, BUMP_STEPS);
            rub = other.rub;
        }

        int bumpsOf(int step) {
            return isOutside(step, 0, BUMP_STEPS - 1) ? 0 : bumps[step];
        }

        long digestOn(long before) {
            if (!there) {
                return 31 * before - 1;
            }
            long h = 31 * before + rub;
            for (int step = 0; step < BUMP_STEPS; step++) {
                h = 31 * h + bumps[step];
            }
            return h;
        }
    }

    /** Reads TEXTS; what it read stands in duck, or in plank and bumps, until it reads again. */
    private static final class Reader {
        final Duck duck = new Duck();
        final Plank plank = new Plank();
        int bumps = 0;
        private int fault = NONE;

        /** The FAULT of a WALKER's TEXT, or NONE. */
        int readDuck(Script script) {
            duck.clear();
            fault = NONE;
            int i = 0;
            // Each round goes on by a place at least, or finds a FAULT.
            for (int n = 0; n < TEXT_MOST && i < script.size && fault == NONE; n++) {
                i = script.sign(i) == ' ' ? i + 1 : readSize(script, i);
            }
            return fault;
        }

        /** The FAULT of a BOARD's TEXT, or NONE. */
        int readPlank(Script script) {
            plank.clear();
            bumps = 0;
            fault = NONE;
            int i = 0;
            for (int n = 0; n < TEXT_MOST && i < script.size && fault == NONE; n++) {
                int sign = script.sign(i);
                if (sign == ' ') {
                    i++;
                } else if (sign == 'u') {
                    i = readRub(script, i);
                } else if (sign == 'b') {
                    i = readBump(script, i);
                } else {
                    fault = i;
                }
            }
            return fault;
        }

        private int faultAt(int i) {
            fault = i;
            return i;
        }

        private static int sizeOf(int letter) {
            switch (letter) {
                case 'w':
                    return WIDE;
                case 'r':
                    return ROUND;
                case 'h':
                    return HIGH;
                case 'l':
                    return LEGS;
                case 'i':
                    return LEFT;
                case 'j':
                    return RIGHT;
                default:
                    return NONE;
            }
        }

        /** Each of the items' readers answers the place behind its item. */
        private int readSize(Script script, int i) {
            int which = sizeOf(script.sign(i));
            if (which == NONE) {
                return faultAt(i);
            }
            boolean isWax = which >= LEFT;
            if (!isWax && script.sign(i + 1) == '?') {
                duck.sizes[which] = 5;
                duck.untold |= 1 << which;
                return i + 2;
            }
            int figure = script.figure(i + 1);
            if (figure < (isWax ? 0 : 1)) {
                return faultAt(i + 1);
            }
            duck.sizes[which] = figure;
            duck.untold &= ~(1 << which);
            return i + 2;
        }

        private int readRub(Script script, int i) {
            int figure = script.figure(i + 1);
            if (figure < 0) {
                return faultAt(i + 1);
            }
            plank.rub = figure;
            return i + 2;
        }

        private int readBump(Script script, int i) {
            if (bumps >= BUMPS_MOST) {
                return faultAt(i);
            }
            int at = i + 1;
            int step = script.figure(at);
            if (step < 0) {
                return faultAt(at);
            }
            at++;
            if (script.figure(at) >= 0) {
                step = 10 * step + script.figure(at);
                at++;
            }
            if (script.sign(at) != ':') {
                return faultAt(at);
            }
            at++;
            int taken = script.figure(at);
            if (taken < 1) {
                return faultAt(at);
            }
            plank.bumps[step] += taken;
            bumps++;
            return at + 1;
        }
    }

    /** A WALK, with a WALKER and a BOARD of its own, so that what becomes of theirs is nothing to it. */
    private static final class Course {
        final Duck duck = new Duck();
        final Plank plank = new Plank();
        boolean there = false;
        int slope = 0;
        int pace = 0;
        int foot = 0;
        int steps = 0;
        int end = GOES;
        int lost = 0;
        int went = 0;

        void begin(int onSlope, int fromPace, int onFoot) {
            slope = onSlope;
            pace = fromPace;
            foot = onFoot;
            steps = 0;
            end = GOES;
            lost = 0;
            went = 0;
        }

        void take(Course other) {
            duck.take(other.duck);
            plank.take(other.plank);
            there = other.there;
            slope = other.slope;
            pace = other.pace;
            foot = other.foot;
            steps = other.steps;
            end = other.end;
            lost = other.lost;
            went = other.went;
        }

        /** One STEP; false, and nothing is done, if it RESTS or FELL. */
        boolean stride() {
            if (end != GOES) {
                return false;
            }
            int knock = pace * pace / duck.damp();
            int next = pace + duck.gain(slope, foot) - knock - plank.rub - plank.bumpsOf(steps);
            if (next < 3) {
                end = RESTS;
                next = 0;
            } else if (next > duck.limit()) {
                end = FELL;
            } else {
                foot = 1 - foot;
            }
            pace = next;
            steps++;
            lost += knock;
            went += duck.sizes[LEGS] + pace / 10;
            return true;
        }

        /** As many of n STEPS as it does: how many. */
        int strideOn(int n) {
            int done = 0;
            while (done < n && stride()) {
                done++;
            }
            return done;
        }

        int value(int what) {
            switch (what) {
                case 0:
                    return pace;
                case 1:
                    return foot;
                case 2:
                    return steps;
                case 3:
                    return end;
                case 4:
                    return slope;
                case 5:
                    return lost;
                default:
                    return went;
            }
        }

        long digestOn(long before) {
            if (!there) {
                return 31 * before - 1;
            }
            long h = before;
            for (int what = 0; what <= 6; what++) {
                h = 31 * h + value(what);
            }
            return h;
        }
    }

    /** Tries what becomes of a walker: its course's duck and plank are set ahead of it. */
    private static final class Trial {
        final Course course = new Course();
        int kind = ANY;
        int trip = 0;
        int least = 0;
        int most = 0;
        private final int[] paces = new int[GO_MOST + 1];
        // When a PACE on a FOOT was come to, counted on from one GOING to the next: so what an
        // earlier GOING left there lies before this one's stamp, and need not be wiped away.
        private final long[] seen = new long[2 * PACES];
        private long stamp = 0;

        /** Finds the GOING: its KIND, ROUND TRIP, and the least and most of its PACES. */
        void find(int slope, int pace) {
            course.begin(slope, pace, 0);
            stamp += GO_MOST + 1;
            kind = MUDDLED;
            trip = 0;
            for (int n = 0; n <= GO_MOST; n++) {
                if (n > 0) {
                    course.stride();
                }
                if (course.end != GOES) {
                    kind = course.end == RESTS ? STOPPING : FALLING;
                    return;
                }
                int state = 2 * course.pace + course.foot;
                if (isOutside(state, 0, 2 * PACES - 1)) {
                    return;
                }
                if (seen[state] >= stamp) {
                    closeTrip((int) (seen[state] - stamp), n);
                    return;
                }
                seen[state] = stamp + n;
                paces[n] = course.pace;
            }
        }

        private void closeTrip(int from, int to) {
            trip = to - from;
            least = paces[from];
            most = paces[from];
            for (int n = from + 1; n < to; n++) {
                least = Math.min(least, paces[n]);
                most = Math.max(most, paces[n]);
            }
            if (least == most) {
                kind = least > course.duck.limit() / 2 ? RUNNING : EVEN;
            } else if (trip <= 4) {
                kind = trip == 4 ? FOURS : LIMPING;
            }
        }

        /** A RUNNING one is EVEN, a FOURS one is LIMPING, and each one is a GOING. */
        boolean isOf(int wanted) {
            return wanted == ANY || wanted == kind
                || wanted == EVEN && kind == RUNNING
                || wanted == LIMPING && kind == FOURS;
        }

        boolean walksWell(int slope, int pace) {
            find(slope, pace);
            return isOf(EVEN);
        }

        /** What a GOING tells as one of a KIND that it is of (but MUDDLED). */
        int tells(int as) {
            switch (as) {
                case EVEN:
                case FOURS:
                    return least;
                case LIMPING:
                    return most - least;
                case RUNNING:
                    return course.duck.limit() - least;
                default:
                    return course.steps;
            }
        }

        /** How many unlike PACES there are behind 400 STEPS. */
        int unlikePaces(int slope, int pace) {
            long low = 0;
            long high = 0;
            course.begin(slope, pace, 0);
            for (int n = 0; n < GO_MOST && course.stride(); n++) {
                if (course.pace < 64) {
                    low |= 1L << course.pace;
                } else {
                    high |= 1L << course.pace - 64;
                }
            }
            return Long.bitCount(low) + Long.bitCount(high);
        }

        /** On how many SLOPES it WALKS well. */
        int span(int pace) {
            int span = 0;
            for (int slope = 0; slope < SLOPES; slope++) {
                span += walksWell(slope, pace) ? 1 : 0;
            }
            return span;
        }
    }

    /** Looks for the SLOPE and LEAD by which a walker has a ROW of TOCKS as nearly as can be. */
    private static final class Guess {
        int least = 0;
        int first = 0;
        int pairs = 0;
        int leading = 0;

        /** The course's duck and plank are set ahead of it. */
        void search(Course course, Row tocks) {
            least = Integer.MAX_VALUE;
            course.duck.sizes[RIGHT] = 0;
            for (int slope = 0; slope < SLOPES; slope++) {
                for (int lead = 0; lead <= 9; lead++) {
                    course.duck.sizes[LEFT] = lead;
                    weigh(offOf(course, tocks, slope), slope, lead);
                }
            }
        }

        private void weigh(int off, int slope, int lead) {
            if (off < least) {
                least = off;
                first = 10 * slope + lead;
                pairs = 0;
                leading = 0;
            }
            if (off == least) {
                pairs++;
                leading += lead > 0 ? 1 : 0;
            }
        }

        /** OFF; once it is above the least so far it does not matter by how much. */
        private int offOf(Course course, Row tocks, int slope) {
            course.begin(slope, tocks.places[0], 0);
            int off = 0;
            for (int i = 1; i < tocks.size && off <= least; i++) {
                course.stride();
                int heard = course.end == GOES ? course.pace : 0;
                off += Math.abs(heard - tocks.places[i]);
            }
            return off;
        }
    }
}
