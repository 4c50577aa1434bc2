/** Promise by promise: ordinary inputs, the edges that the document names, and wrong inputs. */
public final class PromiseTests {
    private static final int LOW = Integer.MIN_VALUE, TOP = Integer.MAX_VALUE;
    private static int promise = 0;
    private static int wrong = 0;

    public static void main(String[] args) {
        aNewObject();
        rowLayAtTear();
        copies();
        means();
        texts();
        walkerFaults();
        boardFaults();
        walkers();
        boards();
        waxes();
        steps();
        walks();
        tocksAndTilt();
        keeping();
        turning();
        goings();
        marks();
        linesAndBegins();
        mending();
        wideAndMend();
        limpAndOdds();
        parts();
        madeAndWould();
        yards();
        pushes();
        bearing();
        meeting();
        told();
        refusalsChangeNothing();
        refusalsInOrder();
        digests();
        footNoughtFirst();
        System.out.println(wrong == 0 ? "all promises hold" : wrong + " answers are not as due");
        if (wrong != 0) {
            System.exit(1);
        }
    }

    private static void due(String call, long got, long want) {
        if (got != want) {
            wrong++;
            System.out.println("promise " + promise + ": " + call + " answered " + got + ", due is " + want);
        }
    }

    /** A call that tells by asked(). */
    private static void tells(DuckWalk x, String call, int got, int want, int asked) {
        due(call, got, want);
        due(call + ", asked()", x.asked(), asked);
    }

    private static void finds(DuckWalk x, String call, int got, int finding) {
        due(call, got, DuckWalk.FINDING);
        due(call + ", finding()", x.finding(), finding);
    }

    private static void bad(String call, int got) {
        due(call, got, DuckWalk.BAD);
    }

    private static void write(DuckWalk x, int t, String s) {
        x.text(t, s.length());
        for (int i = 0; i < s.length(); i++) {
            x.put(t, i, s.charAt(i));
        }
    }

    private static int faultOf(String s, boolean board) {
        DuckWalk x = new DuckWalk();
        write(x, 0, s);
        return x.fault(0, board);
    }

    /** WALKER k by a TEXT; TEXT 3 is written anew by it. */
    private static int walkerBy(DuckWalk x, int k, String s) {
        write(x, 3, s);
        return x.walker(k, 3);
    }

    private static int boardBy(DuckWalk x, int k, String s) {
        write(x, 3, s);
        return x.board(k, 3);
    }

    /** WALKER 0 and BOARD 0 are there. */
    private static DuckWalk with(String walker, String board) {
        DuckWalk x = new DuckWalk();
        walkerBy(x, 0, walker);
        boardBy(x, 0, board);
        return x;
    }

    private static void rowBy(DuckWalk x, int r, int... v) {
        x.row(r, v.length);
        for (int i = 0; i < v.length; i++) {
            x.lay(r, i, v[i]);
        }
    }

    private static int valueAt(DuckWalk x, int r, int i) {
        x.at(r, i);
        return x.asked();
    }

    private static int toldOf(DuckWalk x, int what) {
        x.told(what);
        return x.asked();
    }

    private static void aNewObject() {
        promise = 1;
        DuckWalk x = new DuckWalk();
        for (int what = 0; what <= 6; what++) {
            due("count(" + what + ")", x.count(what), 0);
        }
        due("asked()", x.asked(), 0);
        due("upper()", x.upper(), 0);
        due("lower()", x.lower(), 1);
        due("finding()", x.finding(), 0);
        for (int f = 1; f <= 5; f++) {
            due("findings(" + f + ")", x.findings(f), 0);
        }
        finds(x, "about(0, 0)", x.about(0, 0), 1);
        finds(x, "rub(3, 0)", x.rub(3, 0), 1);
        finds(x, "at(5, 0)", x.at(5, 0), 1);
        finds(x, "put(3, 0, 0)", x.put(3, 0, 0), 1);
        finds(x, "on(2)", x.on(2), 1);
        due("told(0)", x.told(0), DuckWalk.STATE);
    }

    private static void rowLayAtTear() {
        promise = 2;
        DuckWalk x = new DuckWalk();
        due("row(0, 0)", x.row(0, 0), 0);
        due("row(5, 60)", x.row(5, 60), 60);
        bad("row(5, 61)", x.row(5, 61));
        bad("row(6, 1)", x.row(6, 1));
        bad("row(-1, 1)", x.row(-1, 1));
        bad("row(6, -1)", x.row(6, -1));
        finds(x, "row(0, -1)", x.row(0, -1), 5);
        finds(x, "row(0, LOW)", x.row(0, LOW), 5);
        x.lay(5, 59, 4);
        tells(x, "at(5, 59)", x.at(5, 59), 1, 4);
        x.row(5, 60);
        tells(x, "at(5, 59) anew", x.at(5, 59), 1, 0);
        promise = 3;
        x.row(1, 2);
        tells(x, "lay(1, 1, 7)", x.lay(1, 1, 7), 1, 0);
        tells(x, "lay(1, 1, LOW)", x.lay(1, 1, LOW), 1, 7);
        tells(x, "lay(1, 1, 0)", x.lay(1, 1, 0), 1, LOW);
        bad("lay(6, 0, 0)", x.lay(6, 0, 0));
        finds(x, "lay(2, 0, 0)", x.lay(2, 0, 0), 1);
        finds(x, "lay(1, 2, 0)", x.lay(1, 2, 0), 2);
        finds(x, "lay(1, -1, 0)", x.lay(1, -1, 0), 2);
        finds(x, "lay(0, 0, 0)", x.lay(0, 0, 0), 2);
        promise = 4;
        x.lay(1, 0, -5);
        tells(x, "at(1, 0)", x.at(1, 0), 1, -5);
        bad("at(-1, 0)", x.at(-1, 0));
        finds(x, "at(2, 9)", x.at(2, 9), 1);
        finds(x, "at(1, 2)", x.at(1, 2), 2);
        finds(x, "at(1, TOP)", x.at(1, TOP), 2);
        due("asked()", x.asked(), -5);
        promise = 5;
        due("tear(1)", x.tear(1), 1);
        finds(x, "tear(1)", x.tear(1), 1);
        finds(x, "at(1, 0)", x.at(1, 0), 1);
        bad("tear(6)", x.tear(6));
        bad("tear(-1)", x.tear(-1));
        due("count(5)", x.count(5), 2);
    }

    private static void copies() {
        promise = 6;
        DuckWalk x = new DuckWalk();
        rowBy(x, 0, 1, 2, 3, 4, 5);
        due("copy(0, 0, 0, 1, 4)", x.copy(0, 0, 0, 1, 4), 1);
        int[] ahead = {1, 1, 2, 3, 4};
        for (int i = 0; i < 5; i++) {
            due("place " + i, valueAt(x, 0, i), ahead[i]);
        }
        due("copy(0, 1, 0, 0, 4)", x.copy(0, 1, 0, 0, 4), 1);
        int[] back = {1, 2, 3, 4, 4};
        for (int i = 0; i < 5; i++) {
            due("place " + i, valueAt(x, 0, i), back[i]);
        }
        rowBy(x, 1, 8, 9);
        due("copy(0, 3, 1, 0, 2)", x.copy(0, 3, 1, 0, 2), 1);
        due("at(1, 0)", valueAt(x, 1, 0), 4);
        due("copy(0, 5, 1, 2, 0)", x.copy(0, 5, 1, 2, 0), 1);
        finds(x, "copy(0, 6, 1, 2, 0)", x.copy(0, 6, 1, 2, 0), 2);
        finds(x, "copy(0, 5, 1, 3, 0)", x.copy(0, 5, 1, 3, 0), 2);
        finds(x, "copy(0, -1, 1, 0, 0)", x.copy(0, -1, 1, 0, 0), 2);
        finds(x, "copy(0, 0, 1, -1, 0)", x.copy(0, 0, 1, -1, 0), 2);
        finds(x, "copy(0, 0, 1, 0, 3)", x.copy(0, 0, 1, 0, 3), 2);
        finds(x, "copy(1, 0, 0, 0, 3)", x.copy(1, 0, 0, 0, 3), 2);
        finds(x, "copy(0, 1, 1, 0, TOP)", x.copy(0, 1, 1, 0, TOP), 2);
        finds(x, "copy(0, TOP, 1, TOP, TOP)", x.copy(0, TOP, 1, TOP, TOP), 2);
        finds(x, "copy(2, 9, 0, 9, 1)", x.copy(2, 9, 0, 9, 1), 1);
        finds(x, "copy(0, 9, 2, 9, 1)", x.copy(0, 9, 2, 9, 1), 1);
        finds(x, "copy(2, 9, 3, 9, -1)", x.copy(2, 9, 3, 9, -1), 5);
        bad("copy(6, 0, 0, 0, -1)", x.copy(6, 0, 0, 0, -1));
        bad("copy(0, 0, -1, 0, -1)", x.copy(0, 0, -1, 0, -1));
    }

    private static void means() {
        promise = 7;
        DuckWalk x = new DuckWalk();
        rowBy(x, 0, 1, 2, 4);
        tells(x, "mean(0)", x.mean(0), 1, 2);
        rowBy(x, 0, -1, -2, -4);
        tells(x, "mean(0)", x.mean(0), 1, -2);
        rowBy(x, 0, TOP, TOP, TOP);
        tells(x, "mean(0)", x.mean(0), 1, TOP);
        rowBy(x, 0, LOW, LOW);
        tells(x, "mean(0)", x.mean(0), 1, LOW);
        x.row(1, 0);
        finds(x, "mean(1)", x.mean(1), 4);
        finds(x, "mean(2)", x.mean(2), 1);
        bad("mean(6)", x.mean(6));
        due("asked()", x.asked(), LOW);
    }

    private static void texts() {
        promise = 8;
        DuckWalk x = new DuckWalk();
        due("text(0, 0)", x.text(0, 0), 0);
        due("text(3, 80)", x.text(3, 80), 80);
        bad("text(3, 81)", x.text(3, 81));
        bad("text(4, 1)", x.text(4, 1));
        bad("text(-1, -1)", x.text(-1, -1));
        finds(x, "text(0, -1)", x.text(0, -1), 5);
        promise = 9;
        due("put(3, 79, 200)", x.put(3, 79, 200), 1032);
        due("put(3, 79, -129)", x.put(3, 79, -129), 1000 - 56);
        due("put(3, 79, 32)", x.put(3, 79, 32), 1127);
        due("put(3, 79, 1)", x.put(3, 79, 1), 1032);
        x.text(3, 80);
        due("put(3, 79, 1) anew", x.put(3, 79, 1), 1032);
        bad("put(4, 0, 0)", x.put(4, 0, 0));
        finds(x, "put(1, 0, 0)", x.put(1, 0, 0), 1);
        finds(x, "put(3, 80, 0)", x.put(3, 80, 0), 2);
        finds(x, "put(3, -1, 0)", x.put(3, -1, 0), 2);
        finds(x, "put(0, 0, 0)", x.put(0, 0, 0), 2);
        promise = 10;
        bad("fault(4, false)", x.fault(4, false));
        bad("fault(-1, true)", x.fault(-1, true));
        finds(x, "fault(1, false)", x.fault(1, false), 1);
        due("fault(0, true)", x.fault(0, true), DuckWalk.NONE);
    }

    private static void walkerFaults() {
        promise = 10;
        String[] fine = {"", "   ", "w1r2h3l4i5j6", " w9 r9  h9l9i0 j0 ", "w?r?h?l?", "w1w2w?w3"};
        for (String s : fine) {
            due("fault of '" + s + "'", faultOf(s, false), DuckWalk.NONE);
        }
        due("no figure", faultOf("w", false), 1);
        due("no figure behind a blank", faultOf(" r1h", false), 4);
        due("nought", faultOf("w5r0", false), 3);
        due("a blank within", faultOf("w 5", false), 1);
        due("no letter", faultOf("w55", false), 2);
        due("a ? of wax", faultOf("i?", false), 1);
        due("a ? of wax", faultOf("j0j?", false), 3);
        due("another letter", faultOf("x5", false), 0);
        due("a board's letter", faultOf("w5u1", false), 2);
        due("a great letter", faultOf("W5", false), 0);
        due("a ? alone", faultOf("?", false), 0);
        due("a colon", faultOf("w:", false), 1);
        due("a slash", faultOf("i/", false), 1);
        due("a byte below none", faultOf("w5" + (char) 247, false), 2);
        due("no blank", faultOf("" + (char) 9, false), 0);
    }

    private static void boardFaults() {
        promise = 10;
        String bump = "b1:1";
        String eight = bump + bump + bump + bump + bump + bump + bump + bump;
        String[] fine = {"", " ", "u0", "u9u1", "b0:1", "b00:9", "b99:9", " u3 b7:2  b07:2u4 ", eight + "  u2 "};
        for (String s : fine) {
            due("fault of '" + s + "'", faultOf(s, true), DuckWalk.NONE);
        }
        due("no figure", faultOf("u", true), 1);
        due("no STEP", faultOf("b", true), 1);
        due("no STEP", faultOf("b:1", true), 1);
        due("a STEP's end", faultOf("b1", true), 2);
        due("a STEP's end", faultOf("b12", true), 3);
        due("three figures", faultOf("b123:1", true), 3);
        due("nothing taken", faultOf("b12:", true), 4);
        due("0 taken", faultOf("b1:0", true), 3);
        due("two taken", faultOf("b1:12", true), 4);
        due("a blank within", faultOf("b1 :1", true), 2);
        due("a blank within", faultOf("b1: 1", true), 3);
        due("a blank within", faultOf("u 1", true), 1);
        due("a ?", faultOf("u?", true), 1);
        due("a walker's letter", faultOf("u1 w5", true), 3);
        due("a ninth", faultOf(eight + bump, true), 32);
        due("a ninth, not even whole", faultOf(eight + " u2b", true), 35);
    }

    private static void walkers() {
        promise = 11;
        DuckWalk x = new DuckWalk();
        due("walker of nothing told", walkerBy(x, 0, ""), 0);
        due("walker", walkerBy(x, 1, "w1r2h3l4i5j6"), 0);
        due("walker told again", walkerBy(x, 2, "w?w4 r3r? i3i0 h?l?"), 3);
        due("walker all open", walkerBy(x, 3, "w?r?h?l?"), 4);
        due("count(2)", x.count(2), 2);
        finds(x, "walker(0, 0)", x.walker(0, 0), 1);
        bad("walker(4, 3)", x.walker(4, 3));
        bad("walker(0, 4)", x.walker(0, 4));
        bad("walker(-1, -1)", x.walker(-1, -1));
        due("walker by a fault", walkerBy(x, 1, "w1w"), DuckWalk.STATE);
        promise = 13;
        int[][] all = {{5, 5, 5, 5, 0, 0, 0}, {1, 2, 3, 4, 5, 6, 0}, {4, 5, 5, 5, 0, 0, 14}, {5, 5, 5, 5, 0, 0, 15}};
        for (int k = 0; k < 4; k++) {
            for (int what = 0; what <= 6; what++) {
                tells(x, "about(" + k + ", " + what + ")", x.about(k, what), 1, all[k][what]);
            }
        }
        bad("about(0, 7)", x.about(0, 7));
        bad("about(0, -1)", x.about(0, -1));
        bad("about(4, 0)", x.about(4, 0));
        DuckWalk y = new DuckWalk();
        finds(y, "about(2, 0)", y.about(2, 0), 1);
        promise = 11;
        due("walker anew", walkerBy(x, 3, "w?"), 1);
        tells(x, "about(3, 6)", x.about(3, 6), 1, 1);
        due("no drawing any more", walkerBy(x, 3, "w?w9"), 0);
        due("count(2)", x.count(2), 1);
        due("count(0)", x.count(0), 4);
    }

    private static void boards() {
        promise = 12;
        DuckWalk x = new DuckWalk();
        due("board", boardBy(x, 0, ""), 0);
        due("board", boardBy(x, 1, "u3b7:2b07:9 b99:1u4"), 3);
        finds(x, "board(0, 0)", x.board(0, 0), 1);
        bad("board(4, 3)", x.board(4, 3));
        bad("board(0, -1)", x.board(0, -1));
        due("board by a fault", boardBy(x, 1, "u1b"), DuckWalk.STATE);
        promise = 14;
        tells(x, "rub(0, 0)", x.rub(0, 0), 1, 0);
        tells(x, "rub(1, 7)", x.rub(1, 7), 4, 11);
        tells(x, "rub(1, 99)", x.rub(1, 99), 4, 1);
        tells(x, "rub(1, 8)", x.rub(1, 8), 4, 0);
        bad("rub(1, 100)", x.rub(1, 100));
        bad("rub(1, -1)", x.rub(1, -1));
        bad("rub(4, 0)", x.rub(4, 0));
        finds(x, "rub(2, 0)", x.rub(2, 0), 1);
        promise = 12;
        due("board anew", boardBy(x, 1, "b1:1"), 1);
        tells(x, "rub(1, 7)", x.rub(1, 7), 1, 0);
        due("count(1)", x.count(1), 2);
    }

    private static void waxes() {
        promise = 15;
        DuckWalk x = with("i3j4", "");
        due("wax(0, 0, 9)", x.wax(0, 0, 9), 3);
        due("wax(0, 1, 0)", x.wax(0, 1, 0), 4);
        tells(x, "about(0, 4)", x.about(0, 4), 1, 9);
        tells(x, "about(0, 5)", x.about(0, 5), 1, 0);
        bad("wax(0, 2, 0)", x.wax(0, 2, 0));
        bad("wax(0, -1, 0)", x.wax(0, -1, 0));
        bad("wax(0, 0, 10)", x.wax(0, 0, 10));
        bad("wax(0, 0, -1)", x.wax(0, 0, -1));
        bad("wax(4, 0, 0)", x.wax(4, 0, 0));
        finds(x, "wax(1, 0, 0)", x.wax(1, 0, 0), 1);
    }

    /** The edges of RESTS and FALLS: DAMP is 25, it falls above 28, RUB is 1. */
    private static void steps() {
        promise = 17;
        DuckWalk x = with("w1r9h1l5", "");
        due("GAIN 4", x.walk(0, 0, 8, 0, 0), 4);
        due("go(1)", x.go(1), 1);
        due("PACE 3 goes", toldOf(x, 3), 0);
        due("its PACE", toldOf(x, 0), 3);
        due("its FOOT", toldOf(x, 1), 1);
        due("GAIN 3", x.walk(0, 0, 7, 0, 1), 3);
        due("go(400)", x.go(400), 1);
        due("PACE 2 RESTS", toldOf(x, 3), 1);
        due("its PACE", toldOf(x, 0), 0);
        due("its FOOT stays", toldOf(x, 1), 1);
        due("it went", toldOf(x, 6), 5);
        due("no STEP more", x.go(400), 0);
        x.walk(0, 0, 58, 0, 0);
        x.go(1);
        due("PACE 28 goes", toldOf(x, 3), 0);
        x.walk(0, 0, 60, 0, 0);
        due("go(2)", x.go(2), 1);
        due("PACE 29 FALLS", toldOf(x, 3), 2);
        due("its PACE", toldOf(x, 0), 29);
        due("its FOOT stays", toldOf(x, 1), 0);
        due("it went", toldOf(x, 6), 7);
        due("no STEP more", x.go(1), 0);
    }

    /** DAMP is 16; BUMPS are at STEPS 1 and 2. */
    private static void walks() {
        promise = 16;
        DuckWalk x = with("w5r6h4l5i2j1", "u1b1:3b1:2b2:1");
        due("GAIN on 0", x.walk(0, 0, 20, 10, 0), 12);
        due("GAIN on 1", x.walk(0, 0, 29, 10, 1), 15);
        bad("slope 100", x.walk(0, 0, 100, 0, 0));
        bad("slope -1", x.walk(0, 0, -1, 0, 0));
        bad("pace 100", x.walk(0, 0, 0, 100, 0));
        bad("pace -1", x.walk(0, 0, 0, -1, 0));
        bad("foot 2", x.walk(0, 0, 0, 0, 2));
        bad("foot -1", x.walk(0, 0, 0, 0, -1));
        bad("walker 4", x.walk(4, 0, 0, 0, 0));
        bad("board 4", x.walk(0, 4, 0, 0, 0));
        finds(x, "no walker 1", x.walk(1, 0, 0, 0, 0), 1);
        finds(x, "no board 1", x.walk(0, 1, 0, 0, 0), 1);
        due("refused, the WALK stays", toldOf(x, 4), 29);
        promise = 18;
        x.walk(0, 0, 20, 10, 0);
        // 10 + 12 - 6 - 1 = 15; 15 + 11 - 14 - 1 - 5 = 6; 6 + 12 - 2 - 1 - 1 = 14
        int[] pace = {15, 6, 14};
        int[] lost = {6, 20, 22};
        int[] went = {6, 11, 17};
        for (int n = 0; n < 3; n++) {
            due("go(1)", x.go(1), 1);
            int[] all = {pace[n], (n + 1) % 2, n + 1, 0, 20, lost[n], went[n]};
            for (int what = 0; what <= 6; what++) {
                tells(x, "told(" + what + ") after " + (n + 1), x.told(what), 1, all[what]);
            }
        }
        bad("told(7)", x.told(7));
        bad("told(-1)", x.told(-1));
        due("told(0) of none", new DuckWalk().told(0), DuckWalk.STATE);
        bad("told(7) of none", new DuckWalk().told(7));
        promise = 16;
        x.walk(0, 0, 20, 10, 0);
        x.wax(0, 0, 9);
        boardBy(x, 0, "u9");
        walkerBy(x, 0, "l1");
        x.go(3);
        due("as they were when it was begun", toldOf(x, 0), 14);
        promise = 17;
        bad("go(-1)", x.go(-1));
        bad("go(401)", x.go(401));
        due("go(0)", x.go(0), 0);
        due("go(1) of none", new DuckWalk().go(1), DuckWalk.STATE);
        bad("go(401) of none", new DuckWalk().go(401));
        DuckWalk y = with("w5r6h4l5", "");
        y.walk(0, 0, 20, 10, 0);
        for (int n = 0; n < 24; n++) {
            due("go(400)", y.go(400), 400);
        }
        due("go(399)", y.go(399), 399);
        due("beyond 10000", y.go(2), DuckWalk.SPENT);
        due("tocks beyond 10000", y.tocks(2, 0), DuckWalk.SPENT);
        due("no ROW by it", y.count(5), 0);
        due("go(1)", y.go(1), 1);
        due("count(3)", y.count(3), 10000);
        due("go(1)", y.go(1), DuckWalk.SPENT);
        due("go(0)", y.go(0), 0);
        due("tocks(0, 0)", y.tocks(0, 0), 0);
    }

    private static void tocksAndTilt() {
        promise = 19;
        DuckWalk x = with("w5r6h4l5", "b2:9b2:9");
        due("tocks of none", x.tocks(1, 0), DuckWalk.STATE);
        x.walk(0, 0, 20, 10, 0);
        // 10 + 10 - 6 - 1 = 13; 13 + 10 - 10 - 1 = 12; 12 + 10 - 9 - 1 - 18 is below 3
        due("tocks(5, 1)", x.tocks(5, 1), 3);
        int[] heard = {13, 12, 0, 0, 0};
        for (int i = 0; i < 5; i++) {
            due("tock " + i, valueAt(x, 1, i), heard[i]);
        }
        finds(x, "at(1, 5)", x.at(1, 5), 2);
        due("count(3)", x.count(3), 3);
        due("tocks(60, 1)", x.tocks(60, 1), 0);
        due("its size", x.at(1, 59), 1);
        due("tocks(0, 1)", x.tocks(0, 1), 0);
        finds(x, "at(1, 0)", x.at(1, 0), 2);
        bad("tocks(61, 0)", x.tocks(61, 0));
        bad("tocks(-1, 0)", x.tocks(-1, 0));
        bad("tocks(1, 6)", x.tocks(1, 6));
        bad("tocks(1, -1)", x.tocks(1, -1));
        DuckWalk y = with("w1r9h1l9", "");
        y.walk(0, 0, 99, 3, 0);
        due("tocks of a fall", y.tocks(2, 0), 1);
        due("the PACE behind it", valueAt(y, 0, 0), 91);
        due("a STEP not done", valueAt(y, 0, 1), 0);
        promise = 20;
        due("tilt of none", new DuckWalk().tilt(1), DuckWalk.STATE);
        bad("tilt(100)", new DuckWalk().tilt(100));
        bad("tilt(-1)", y.tilt(-1));
        DuckWalk z = with("w5r6h4l5", "");
        z.walk(0, 0, 20, 10, 0);
        due("tilt(30)", z.tilt(30), 20);
        due("tilt(30)", z.tilt(30), 30);
        z.go(1);
        due("PACE by the new SLOPE", toldOf(z, 0), 18);
        due("told(4)", toldOf(z, 4), 30);
    }

    private static void keeping() {
        promise = 21;
        DuckWalk x = with("w5r6h4l5i2", "b5:4");
        due("keep(0) of none", x.keep(0), DuckWalk.STATE);
        bad("keep(3) of none", x.keep(3));
        bad("keep(-1)", x.keep(-1));
        x.walk(0, 0, 20, 10, 0);
        x.go(4);
        due("keep(2)", x.keep(2), 4);
        due("count(4)", x.count(4), 1);
        long digest = x.digest();
        x.tilt(31);
        x.go(9);
        boardBy(x, 0, "u5");
        x.wax(0, 0, 7);
        x.walk(0, 0, 5, 5, 0);
        promise = 22;
        due("on(2)", x.on(2), 4);
        due("count(3)", x.count(3), 4);
        due("SLOPE", toldOf(x, 4), 20);
        x.go(3);
        int pace = toldOf(x, 0);
        due("on(2) again", x.on(2), 4);
        x.go(3);
        due("the same PACE", toldOf(x, 0), pace);
        finds(x, "on(0)", x.on(0), 1);
        bad("on(3)", x.on(3));
        bad("on(-1)", x.on(-1));
        due("keep(2) anew", x.keep(2), 7);
        due("on(2)", x.on(2), 7);
        due("count(4)", x.count(4), 1);
        promise = 21;
        boardBy(x, 0, "b5:4");
        walkerBy(x, 0, "w5r6h4l5i2");
        boardBy(x, 0, "b5:4");
        x.walk(0, 0, 20, 10, 0);
        x.go(4);
        due("all as it was", x.digest(), digest);
    }

    private static void turning() {
        promise = 23;
        DuckWalk x = with("w9r6h4l5i3j1", "");
        due("turns of none", x.turns(), DuckWalk.STATE);
        x.walk(0, 0, 20, 10, 0);
        tells(x, "turns()", x.turns(), 0, 180);
        x.go(1);
        tells(x, "turns()", x.turns(), 358, 180);
        x.wax(0, 0, 0);
        x.wax(0, 1, 7);
        x.walk(0, 0, 9, 10, 0);
        x.go(60);
        due("it goes", toldOf(x, 3), 0);
        tells(x, "turns()", x.turns(), 60, 360);
        x.wax(0, 0, 7);
        x.walk(0, 0, 2, 10, 0);
        x.go(3);
        tells(x, "turns()", x.turns(), 0, DuckWalk.NONE);
        x.wax(0, 0, 1);
        x.wax(0, 1, 9);
        x.walk(0, 0, 2, 10, 0);
        tells(x, "turns()", x.turns(), 0, 45);
        x.wax(0, 1, 6);
        x.walk(0, 0, 2, 10, 0);
        tells(x, "turns()", x.turns(), 0, 72);
    }

    private static void goings() {
        promise = 24;
        DuckWalk x = with("w5r6h4l5", "b0:9b1:9");
        // DAMP 16, GAIN 25: 10, 28, 3, 27, 6, 28
        tells(x, "FOURS", x.going(0, 0, 50, 10), 7, 4);
        // GAIN 10: 10, 13, 12, 12
        tells(x, "EVEN, BUMPS or no", x.going(0, 0, 20, 10), 1, 2);
        // GAIN 15: 10, 18, 12, 17, 13, 17
        tells(x, "LIMPING", x.going(0, 0, 30, 10), 2, 2);
        tells(x, "STOPPING", x.going(0, 0, 0, 0), 4, 0);
        walkerBy(x, 1, "w1r9h1l5");
        // DAMP 25, GAIN 10: 15 + 10 - 9 - 1; half of 28 is 14
        tells(x, "RUNNING", x.going(1, 0, 20, 15), 6, 2);
        tells(x, "not RUNNING: 14", x.going(1, 0, 16, 14), 1, 2);
        tells(x, "FALLING", x.going(1, 0, 99, 3), 5, 0);
        walkerBy(x, 2, "w5r6h4l5i1");
        due("unlike FEET", x.going(2, 0, 20, 12), 2);
        bad("walker 4", x.going(4, 0, 0, 0));
        bad("board -1", x.going(0, -1, 0, 0));
        bad("slope 100", x.going(0, 0, 100, 0));
        bad("pace 100", x.going(0, 0, 0, 100));
        bad("pace -1", x.going(3, 3, 0, -1));
        finds(x, "no walker", x.going(3, 0, 0, 0), 1);
        finds(x, "no board", x.going(0, 3, 0, 0), 1);
        due("count(3)", x.count(3), 0);
    }

    private static void marks() {
        promise = 25;
        DuckWalk x = with("w5r6h4l5", "b0:9");
        walkerBy(x, 1, "w1r9h1l5");
        due("EVEN", x.mark(0, 0, 20, 10, 1), 12);
        finds(x, "EVEN, no RUNNING", x.mark(0, 0, 20, 10, 6), 3);
        due("RUNNING as EVEN", x.mark(1, 0, 20, 15, 1), 15);
        due("RUNNING", x.mark(1, 0, 20, 15, 6), 13);
        due("LIMPING", x.mark(0, 0, 30, 10, 2), 4);
        finds(x, "LIMPING, no FOURS", x.mark(0, 0, 30, 10, 7), 3);
        due("FOURS as LIMPING", x.mark(0, 0, 50, 10, 2), 25);
        due("FOURS", x.mark(0, 0, 50, 10, 7), 3);
        // 5 - 1 - 1 = 3, 3 - 0 - 1 = 2
        due("STOPPING", x.mark(0, 0, 0, 5, 4), 2);
        due("FALLING", x.mark(1, 0, 99, 3, 5), 1);
        for (int kind = 1; kind <= 7; kind++) {
            if (kind != 4) {
                finds(x, "STOPPING, not " + kind, x.mark(0, 0, 0, 5, kind), 3);
            }
        }
        bad("KIND 0", x.mark(0, 0, 0, 0, 0));
        bad("KIND 8", x.mark(0, 0, 0, 0, 8));
        bad("pace 100", x.mark(0, 0, 0, 100, 1));
        bad("slope -1", x.mark(0, 0, -1, 0, 1));
        finds(x, "no walker", x.mark(2, 0, 0, 0, 1), 1);
        finds(x, "no board", x.mark(0, 2, 0, 0, 1), 1);
        due("asked() stays", x.asked(), 0);
    }

    private static void linesAndBegins() {
        promise = 26;
        DuckWalk x = with("w5r6h4l5", "b0:9");
        tells(x, "all", x.lines(0, 0, 10, 0), 100, 0);
        tells(x, "EVEN", x.lines(0, 0, 10, 1), 20, 2);
        tells(x, "LIMPING, FOURS too", x.lines(0, 0, 10, 2), 30, 18);
        tells(x, "MUDDLED", x.lines(0, 0, 10, 3), 0, DuckWalk.NONE);
        tells(x, "STOPPING", x.lines(0, 0, 10, 4), 50, 0);
        tells(x, "FALLING", x.lines(0, 0, 10, 5), 0, DuckWalk.NONE);
        tells(x, "FOURS", x.lines(0, 0, 10, 7), 2, 50);
        walkerBy(x, 1, "w1r9h1l5");
        int running = 0;
        int even = 0;
        for (int slope = 0; slope < 100; slope++) {
            int kind = x.going(1, 0, slope, 15);
            running += kind == 6 ? 1 : 0;
            even += kind == 6 || kind == 1 ? 1 : 0;
        }
        due("RUNNING", x.lines(1, 0, 15, 6), running);
        due("some run", running > 0 ? 1 : 0, 1);
        due("EVEN, RUNNING too", x.lines(1, 0, 15, 1), even);
        bad("KIND 8", x.lines(0, 0, 0, 8));
        bad("KIND -1", x.lines(0, 0, 0, -1));
        bad("pace 100", x.lines(0, 0, 100, 0));
        finds(x, "no walker", x.lines(2, 0, 0, 0), 1);
        finds(x, "no board", x.lines(0, 1, 0, 0), 1);
        promise = 27;
        tells(x, "begins", x.begins(0, 0, 20), 22, 0);
        tells(x, "begins on the flat", x.begins(0, 0, 0), 0, DuckWalk.NONE);
        bad("slope 100", x.begins(0, 0, 100));
        bad("walker -1", x.begins(-1, 0, 0));
        finds(x, "no walker", x.begins(2, 0, 0), 1);
        finds(x, "no board", x.begins(0, 1, 0), 1);
    }

    private static void mending() {
        promise = 28;
        DuckWalk x = with("w5r6h4l5", "b0:9");
        // EVEN at 12: 13 + 10 - 10 - 1 = 12
        due("mends by 1", x.mends(0, 0, 20, 10, 1), 1);
        // 17 + 9 - 18 = 8, 8 + 9 - 4 = 13, 12
        due("mends by 5", x.mends(0, 0, 20, 10, 5), 3);
        // 32 + 9 - 64 is below 3
        due("not by 20", x.mends(0, 0, 20, 10, 20), DuckWalk.NONE);
        bad("d 21", x.mends(0, 0, 20, 10, 21));
        bad("d 0", x.mends(0, 0, 20, 10, 0));
        bad("d 0, no walker", x.mends(3, 0, 20, 10, 0));
        finds(x, "no walker", x.mends(1, 0, 20, 10, 1), 1);
        finds(x, "no board", x.mends(0, 1, 20, 10, 1), 1);
        finds(x, "LIMPING", x.mends(0, 0, 30, 10, 1), 3);
        finds(x, "STOPPING", x.mends(0, 0, 0, 10, 1), 3);
        walkerBy(x, 1, "w1r9h1l5");
        // 20 + 9 - 16 = 13, 13 + 9 - 6 = 16, 16 + 9 - 10 = 15
        due("RUNNING", x.mends(1, 0, 20, 15, 5), 3);
    }

    private static void wideAndMend() {
        promise = 29;
        DuckWalk x = with("w5r6h4l5", "b0:9");
        tells(x, "wide", x.wide(0, 0, 10), 92, 30);
        tells(x, "about() stays", x.about(0, 1), 1, 6);
        bad("pace 100", x.wide(0, 0, 100));
        bad("walker 4", x.wide(4, 0, 0));
        finds(x, "no walker", x.wide(1, 0, 0), 1);
        finds(x, "no board", x.wide(0, 1, 0), 1);
        walkerBy(x, 1, "w7r3h5l5j2");
        boardBy(x, 1, "u2");
        tells(x, "of alike ones the first", x.wide(1, 1, 8), 11, 0);
        promise = 30;
        walkerBy(x, 2, "w5r6h4l5i3");
        tells(x, "mend", x.mend(2, 0, 20, 10), 0, 12);
        // GAIN is 0 without WAX; 1 beneath both: 10 + 1 - 6 - 1 = 4, 3, 3
        tells(x, "mend on the flat", x.mend(2, 0, 0, 10), 11, 3);
        tells(x, "wax stays", x.about(2, 4), 1, 3);
        boardBy(x, 2, "u9");
        // 3 + 9 - 0 - 9 = 3
        tells(x, "the most WAX", x.mend(0, 2, 0, 3), 99, 3);
        due("mend by none", x.mend(0, 0, 99, 10), DuckWalk.NONE);
        due("asked() stays", x.asked(), 3);
        bad("slope 100", x.mend(0, 0, 100, 10));
        finds(x, "no walker", x.mend(3, 0, 0, 0), 1);
        finds(x, "no board", x.mend(0, 3, 0, 0), 1);
    }

    private static void limpAndOdds() {
        promise = 31;
        DuckWalk x = with("w5r6h4l5i9j9", "b0:9");
        rowBy(x, 0, 13, 12, 12, 12);
        // GAIN 10 is by SLOPES 20 and 21, LEAD 0
        tells(x, "limp", x.limp(0, 0, 0), 200, 0);
        promise = 32;
        due("odds", x.odds(0, 0, 0), 2);
        due("upper()", x.upper(), 0);
        due("lower()", x.lower(), 1);
        promise = 31;
        // 12 + 10 + 3 - 9 - 1 = 15; 15 + 10 - 14 - 1 = 10; 10 + 13 - 6 - 1 = 16; 16 + 10 - 16 - 1 = 9
        rowBy(x, 1, 12, 15, 10, 16, 9);
        tells(x, "limp by a LEAD", x.limp(0, 0, 1), 203, 0);
        promise = 32;
        due("odds by a LEAD", x.odds(0, 0, 1), 2);
        due("upper()", x.upper(), 1);
        due("lower()", x.lower(), 1);
        // 10 + 10 - 6 - 1: GAIN and LEAD are 10 together, each of ten LEADS by two SLOPES
        rowBy(x, 2, 10, 13);
        due("odds of two", x.odds(0, 0, 2), 20);
        due("upper()", x.upper(), 9);
        due("lower()", x.lower(), 10);
        // by LEGS of 9 two SLOPES have GAIN 9, and one each of the others: 10 of 11
        walkerBy(x, 1, "w5r6h4l9");
        due("odds in lowest terms", x.odds(1, 0, 2), 11);
        due("upper()", x.upper(), 10);
        due("lower()", x.lower(), 11);
        promise = 31;
        tells(x, "limp of two", x.limp(0, 0, 2), 29, 0);
        rowBy(x, 3, 0, 0, 0);
        tells(x, "it RESTS", x.limp(0, 0, 3), 0, 0);
        rowBy(x, 3, 0, 99);
        // 0 + 49 + 9 - 1 = 57 is the most that there is
        tells(x, "it FALLS not", x.limp(0, 0, 3), 989, 42);
        walkerBy(x, 1, "w1r9h1l9");
        rowBy(x, 3, 0, 99);
        // it FALLS above 28: 0 + 20 + 9 - 1 by SLOPE 23 and LEAD 9 is the first of 28
        tells(x, "0 for a fall", x.limp(1, 0, 3), 239, 71);
        promise = 32;
        due("odds", x.odds(1, 0, 3) > 0 ? 1 : 0, 1);
        promise = 31;
        bad("row 6", x.limp(0, 0, 6));
        bad("walker 4", x.limp(4, 0, 0));
        bad("board 4", x.limp(0, 4, 0));
        finds(x, "no walker", x.limp(2, 0, 0), 1);
        finds(x, "no board", x.limp(0, 2, 0), 1);
        finds(x, "no row", x.limp(0, 0, 5), 1);
        rowBy(x, 4, 100);
        finds(x, "fewer than 2", x.limp(0, 0, 4), 5);
        rowBy(x, 4, 5, 100);
        finds(x, "not 0 .. 99", x.limp(0, 0, 4), 3);
        rowBy(x, 4, -1, 5);
        finds(x, "not 0 .. 99", x.limp(0, 0, 4), 3);
        promise = 32;
        bad("row -1", x.odds(0, 0, -1));
        finds(x, "no row", x.odds(0, 0, 5), 1);
        finds(x, "no walker", x.odds(2, 0, 4), 1);
        finds(x, "not 0 .. 99", x.odds(0, 0, 4), 3);
        x.row(4, 1);
        finds(x, "fewer than 2", x.odds(0, 0, 4), 5);
        due("lower() stays", x.lower() > 0 ? 1 : 0, 1);
    }

    private static void parts() {
        promise = 33;
        DuckWalk x = with("w5r6h4l5", "b0:9");
        tells(x, "WIDE", x.part(0, 0, 10, 0), 100, 20);
        tells(x, "HIGH", x.part(0, 0, 10, 2), 98, 22);
        x.part(0, 0, 10, 1);
        walkerBy(x, 1, "w5r1h4l5");
        int span = x.lines(1, 0, 10, 1);
        tells(x, "ROUND", x.part(0, 0, 10, 1), 120 - span, span);
        walkerBy(x, 1, "w5r6h4l1");
        span = x.lines(1, 0, 10, 1);
        tells(x, "LEGS", x.part(0, 0, 10, 3), 120 - span, span);
        tells(x, "about() stays", x.about(0, 3), 1, 5);
        walkerBy(x, 1, "w5r6h4l5i2j2");
        walkerBy(x, 2, "w5r6h4l1i2j2");
        due("well on the flat", x.going(1, 0, 0, 10), 1);
        int whole = x.lines(1, 0, 10, 1);
        span = x.lines(2, 0, 10, 1);
        tells(x, "SLOPE 0 too", x.part(1, 0, 10, 3), 100 + whole - span, span);
        bad("which 4", x.part(0, 0, 10, 4));
        bad("which -1", x.part(0, 0, 10, -1));
        bad("pace 100", x.part(0, 0, 100, 0));
        finds(x, "no walker", x.part(3, 0, 10, 0), 1);
        finds(x, "no board", x.part(0, 2, 10, 0), 1);
    }

    private static void madeAndWould() {
        promise = 34;
        DuckWalk x = with("w5r6h4l5", "b0:9");
        due("made", x.made(0, 0, 20, 10), 27);
        due("upper()", x.upper(), 2);
        due("lower()", x.lower(), 3);
        walkerBy(x, 1, "w1r9h5");
        due("made at two edges", x.made(1, 0, 99, 10), 12);
        due("upper()", x.upper(), 0);
        due("lower()", x.lower(), 1);
        walkerBy(x, 1, "w9r1h9");
        due("made at three edges", x.made(1, 0, 0, 0), 8);
        walkerBy(x, 1, "w5r5h1");
        due("made at one edge", x.made(1, 0, 0, 0), 18);
        bad("slope 100", x.made(0, 0, 100, 0));
        bad("pace 100", x.made(0, 0, 0, 100));
        finds(x, "no walker", x.made(2, 0, 0, 0), 1);
        finds(x, "no board", x.made(0, 2, 0, 0), 1);
        promise = 35;
        tells(x, "would, all told", x.would(0, 0, 20, 10), 1, 5645);
        tells(x, "would not, all told", x.would(0, 0, 30, 10), 0, DuckWalk.NONE);
        walkerBy(x, 1, "w?r6h4l5");
        // only RUNNING hangs on WIDE here, and none falls: 13 and 12 are below 28
        tells(x, "WIDE not told", x.would(1, 0, 20, 10), 9, 1645);
        walkerBy(x, 1, "w5r6h4l?");
        int ways = 0;
        int first = DuckWalk.NONE;
        for (int legs = 9; legs >= 1; legs--) {
            walkerBy(x, 2, "w5r6h4l" + legs);
            if (x.would(2, 0, 20, 10) == 1) {
                ways++;
                first = 5640 + legs;
            }
        }
        tells(x, "LEGS not told", x.would(1, 0, 20, 10), ways, first);
        wouldByTwo();
        walkerBy(x, 1, "w?r?h?l?");
        due("more than 3", x.would(1, 0, 20, 10), DuckWalk.SPENT);
        finds(x, "NOTHING ahead of SPENT", x.would(1, 3, 20, 10), 1);
        bad("slope 100", x.would(1, 0, 100, 10));
        walkerBy(x, 1, "w?r?h?");
        due("3 are fine", x.would(1, 0, 20, 10) > 0 ? 1 : 0, 1);
        finds(x, "no walker", x.would(3, 0, 20, 10), 1);
    }

    private static void wouldByTwo() {
        DuckWalk x = with("w5r?h4l?", "");
        int ways = 0;
        int first = DuckWalk.NONE;
        for (int round = 9; round >= 1; round--) {
            walkerBy(x, 1, "w5h4l?r" + round);
            ways += x.would(1, 0, 20, 10);
            first = x.asked() == DuckWalk.NONE ? first : x.asked();
        }
        tells(x, "two not told", x.would(0, 0, 20, 10), ways, first);
    }

    /** WAX of 9 beneath LEFT alone, on the flat: 0, 8, 3, 11, 3, 11; on RIGHT first it would REST. */
    private static void footNoughtFirst() {
        DuckWalk x = with("w5r6h4l5i9", "");
        promise = 24;
        tells(x, "LIMPING", x.going(0, 0, 0, 0), 2, 2);
        promise = 25;
        due("apart", x.mark(0, 0, 0, 0, 2), 8);
        promise = 36;
        tells(x, "yard", x.yard(0, 0, 0, 0, 6), 2, 4);
        promise = 38;
        // 8 - 3 = 5, 5 - 1 - 1 = 3; but 4 - 1 - 1 = 2
        due("at STEP 0", x.bears(0, 0, 0, 0, 0), 3);
        // 11 - 6 = 5, likewise
        due("at STEP 98", x.bears(0, 0, 0, 0, 98), 6);
        due("at STEP 99, at PACE 3", x.bears(0, 0, 0, 0, 99), 0);
        promise = 39;
        walkerBy(x, 1, "w5r6h4l5i9j9");
        due("alike on FOOT 0", x.meets(0, 1, 0, 0, 0), 1);
        promise = 37;
        walkerBy(x, 2, "w5r6h4l5i2");
        due("never EVEN by unlike WAX", x.push(2, 0, 10), DuckWalk.NONE);
    }

    private static void yards() {
        promise = 36;
        DuckWalk x = with("w5r6h4l5", "b0:9");
        // 13, 12, 12 ..: 6 a STEP; lost 6, 10, 9, 9 ..
        tells(x, "yard of 1", x.yard(0, 0, 20, 10, 1), 1, 6);
        tells(x, "yard of 6", x.yard(0, 0, 20, 10, 6), 1, 6);
        tells(x, "yard of 7", x.yard(0, 0, 20, 10, 7), 2, 16);
        tells(x, "yard of 100", x.yard(0, 0, 20, 10, 100), 17, 151);
        tells(x, "yard of 2000", x.yard(0, 0, 20, 10, 2000), 334, 16 + 332 * 9);
        walkerBy(x, 1, "w5r6h4l1");
        // GAIN 9 by SLOPE 90: 11, 12, 11 ..: 2 a STEP
        due("2 a STEP", x.yard(1, 0, 90, 10, 800), 400);
        due("not within 400", x.yard(1, 0, 90, 10, 801), DuckWalk.NONE);
        due("it ends ahead", x.yard(0, 0, 0, 0, 6), DuckWalk.NONE);
        tells(x, "it ends by that STEP", x.yard(0, 0, 0, 0, 5), 1, 0);
        bad("d 0", x.yard(0, 0, 0, 0, 0));
        bad("d 2001", x.yard(0, 0, 0, 0, 2001));
        bad("slope 100", x.yard(0, 0, 100, 0, 1));
        finds(x, "no walker", x.yard(2, 0, 0, 0, 1), 1);
        finds(x, "no board", x.yard(0, 2, 0, 0, 1), 1);
        due("asked() stays", x.asked(), 0);
    }

    private static void pushes() {
        promise = 37;
        DuckWalk x = with("w5r6h4l5", "b0:9");
        // 10 + 1 - 6 - 1 = 4, 3, 3; on FOOT 0 alone 3: 6, 3, 5, 3, 5
        tells(x, "push", x.push(0, 0, 10), 1, 3);
        walkerBy(x, 1, "w7r3h5l5");
        boardBy(x, 1, "u2");
        tells(x, "none on FOOT 0 alone", x.push(1, 1, 8), 4, DuckWalk.NONE);
        due("none at all", x.push(0, 0, 99), DuckWalk.NONE);
        due("asked() stays", x.asked(), DuckWalk.NONE);
        x.about(0, 0);
        due("none at all", x.push(0, 0, 99), DuckWalk.NONE);
        due("asked() stays", x.asked(), 5);
        tells(x, "wax stays", x.about(0, 4), 1, 0);
        bad("pace 100", x.push(0, 0, 100));
        bad("walker 4", x.push(4, 0, 0));
        finds(x, "no walker", x.push(2, 0, 0), 1);
        finds(x, "no board", x.push(0, 2, 0), 1);
    }

    private static void bearing() {
        promise = 38;
        DuckWalk x = with("w5r6h4l5", "b0:9b1:9b2:9");
        // 12 + 10 - 9 - 1 - 9 = 3
        due("bears", x.bears(0, 0, 20, 10, 5), 9);
        // 10 + 10 - 6 - 1 - 10 = 3
        due("bears at STEP 0", x.bears(0, 0, 20, 10, 0), 10);
        due("bears none", x.bears(0, 0, 0, 0, 5), DuckWalk.NONE);
        walkerBy(x, 1, "w5r1h1");
        // by 9 and 10 it comes to RESTS, by 11 it does not
        due("the most, though not all below", x.bears(1, 0, 28, 8, 0), 11);
        due("by 1 and 2 it RESTS", x.bears(1, 0, 28, 8, 1), 3);
        due("by 0 it RESTS, by 4 it does not", x.bears(1, 0, 26, 5, 0), DuckWalk.NONE);
        bad("t 100", x.bears(0, 0, 20, 10, 100));
        bad("t -1", x.bears(0, 0, 20, 10, -1));
        bad("pace 100", x.bears(0, 0, 20, 100, 0));
        finds(x, "no walker", x.bears(2, 0, 20, 10, 0), 1);
        finds(x, "no board", x.bears(0, 2, 20, 10, 0), 1);
        due("no BUMP stays behind", x.going(0, 0, 20, 10), 1);
        due("bears again", x.bears(0, 0, 20, 10, 6), 9);
    }

    private static void meeting() {
        promise = 39;
        DuckWalk x = with("w5r6h4l5", "b0:9");
        walkerBy(x, 1, "w5r6h4l5i1j9");
        walkerBy(x, 2, "w1r6h4l5");
        due("itself", x.meets(0, 0, 0, 20, 10), 1);
        due("one that is narrower", x.meets(0, 2, 0, 20, 10), 1);
        due("one with more WAX", x.meets(0, 1, 0, 20, 10), DuckWalk.NONE);
        due("both REST", x.meets(0, 0, 0, 0, 0), DuckWalk.NONE);
        // 0 + 30 - 1 = 29: one FALLS above 28
        due("one FALLS", x.meets(0, 2, 0, 60, 0), DuckWalk.NONE);
        walkerBy(x, 3, "w5r6h4l5j1");
        due("unlike on FOOT 1 alone", x.meets(0, 3, 0, 20, 10), 1);
        bad("other 4", x.meets(0, 4, 0, 0, 0));
        bad("other -1", x.meets(0, -1, 0, 0, 0));
        bad("walker 4", x.meets(4, 0, 0, 0, 0));
        bad("board 4", x.meets(0, 0, 4, 0, 0));
        bad("slope 100", x.meets(0, 0, 0, 100, 0));
        finds(x, "no board", x.meets(0, 0, 1, 0, 0), 1);
        DuckWalk y = with("", "");
        finds(y, "no other", y.meets(0, 1, 0, 0, 0), 1);
        finds(y, "no walker", y.meets(1, 0, 0, 0, 0), 1);
    }

    private static void told() {
        promise = 40;
        DuckWalk x = with("w5r6h4l5", "u1");
        tells(x, "about(0, 2)", x.about(0, 2), 1, 4);
        x.made(0, 0, 20, 10);
        x.mends(0, 0, 20, 10, 1);
        x.mark(0, 0, 20, 10, 1);
        x.bears(0, 0, 20, 10, 1);
        x.meets(0, 0, 0, 20, 10);
        x.wax(0, 0, 1);
        x.wax(0, 0, 0);
        x.walk(0, 0, 20, 10, 0);
        x.go(2);
        x.tocks(2, 0);
        x.odds(0, 0, 0);
        x.keep(0);
        x.on(0);
        x.tilt(3);
        x.digest();
        x.count(5);
        due("asked() by none of them", x.asked(), 4);
        promise = 41;
        x.made(0, 0, 99, 99);
        due("upper()", x.upper(), 0);
        promise = 42;
        due("lower()", x.lower(), 1);
        promise = 43;
        x.text(0, 1);
        walkerBy(x, 3, "w?");
        int[] counts = {2, 1, 1, 4, 1, 1, 2};
        for (int what = 0; what <= 6; what++) {
            due("count(" + what + ")", x.count(what), counts[what]);
        }
        x.tear(0);
        due("count(5)", x.count(5), 0);
        bad("count(7)", x.count(7));
        bad("count(-1)", x.count(-1));
        promise = 44;
        due("finding()", x.finding(), 0);
        x.at(0, 0);
        due("finding()", x.finding(), 1);
        x.at(9, 0);
        due("finding() stays by BAD", x.finding(), 1);
        x.row(0, -1);
        due("finding()", x.finding(), 5);
        x.row(0, 0);
        x.mean(0);
        due("finding()", x.finding(), 4);
        x.mark(0, 0, 20, 10, 5);
        due("finding()", x.finding(), 3);
        x.lay(0, 0, 0);
        x.at(0, -1);
        due("finding()", x.finding(), 2);
        promise = 45;
        int[] often = {0, 1, 2, 1, 1, 1};
        for (int f = 1; f <= 5; f++) {
            due("findings(" + f + ")", x.findings(f), often[f]);
        }
        bad("findings(0)", x.findings(0));
        bad("findings(6)", x.findings(6));
        bad("findings(-1)", x.findings(-1));
    }

    /** What is refused changes nothing but finding(), findings(). */
    private static void refusalsChangeNothing() {
        promise = 0;
        DuckWalk x = with("w?r6h4", "u2b3:4");
        rowBy(x, 0, 7, 100);
        x.walk(0, 0, 20, 10, 0);
        x.go(2);
        x.made(0, 0, 20, 10);
        x.about(0, 2);
        write(x, 1, "w");
        long digest = x.digest(), upper = x.upper(), lower = x.lower();
        int[] refused = {x.row(0, 61), x.row(0, -1), x.lay(0, 2, 5), x.at(1, 0), x.tear(1), x.copy(0, 0, 0, 1, 2),
            x.copy(0, 0, 1, 0, 1), x.mean(1), x.text(1, 81), x.text(1, -1), x.put(1, 1, 5), x.fault(0, true),
            x.walker(0, 1), x.walker(0, 0), x.board(0, 1), x.board(0, 0), x.about(1, 0), x.rub(1, 0), x.wax(1, 0, 5),
            x.wax(0, 0, 10), x.walk(0, 1, 5, 5, 0), x.walk(0, 0, 100, 5, 0), x.go(401), x.told(7), x.tocks(61, 0),
            x.tocks(2, 6), x.tilt(100), x.keep(3), x.on(0), x.going(1, 0, 20, 10), x.mark(0, 0, 20, 10, 5),
            x.lines(1, 0, 10, 1), x.begins(0, 1, 20), x.mends(0, 0, 30, 10, 1), x.wide(0, 1, 10), x.mend(1, 0, 0, 0),
            x.limp(0, 0, 0), x.odds(0, 0, 0), x.part(0, 1, 10, 0), x.made(0, 1, 20, 10), x.would(0, 1, 20, 10),
            x.yard(0, 0, 20, 10, 0), x.push(1, 0, 10), x.bears(0, 1, 20, 10, 1), x.meets(0, 1, 0, 20, 10),
            x.count(7), x.findings(0)};
        for (int i = 0; i < refused.length; i++) {
            due("refusal " + i, refused[i] < 0 && refused[i] != DuckWalk.NONE ? 1 : 0, 1);
        }
        due("digest()", x.digest(), digest);
        due("asked()", x.asked(), 4);
        due("upper()", x.upper(), upper);
        due("lower()", x.lower(), lower);
    }

    /** BAD is ahead of all others; STATE, SPENT ahead of FINDING. */
    private static void refusalsInOrder() {
        promise = 0;
        DuckWalk x = new DuckWalk();
        int[] bads = {x.lay(6, -1, 0), x.at(6, -1), x.put(4, -1, 0), x.about(0, 7), x.rub(0, 100), x.wax(0, 0, 10),
            x.walk(0, 0, 0, 0, 2), x.go(401), x.told(7), x.tocks(1, 6), x.tilt(100), x.keep(3), x.on(3),
            x.going(0, 0, 100, 0), x.mark(0, 0, 0, 0, 8), x.lines(0, 0, 0, 8), x.begins(0, 0, 100),
            x.mends(0, 0, 0, 0, 21), x.wide(0, 0, 100), x.mend(0, 0, 0, 100), x.limp(0, 0, 6), x.odds(0, 4, 0),
            x.part(0, 0, 0, 4), x.made(0, 0, 100, 0), x.would(0, 0, 0, 100), x.yard(0, 0, 0, 0, 2001),
            x.push(0, 0, 100), x.bears(0, 0, 0, 0, 100), x.meets(0, 4, 0, 0, 0), x.walker(0, 4), x.board(4, 0),
            x.going(LOW, TOP, LOW, TOP), x.walk(TOP, TOP, TOP, TOP, TOP), x.go(TOP), x.yard(0, 0, 0, 0, LOW)};
        for (int i = 0; i < bads.length; i++) {
            due("bad " + i, bads[i], DuckWalk.BAD);
        }
        for (int f = 1; f <= 5; f++) {
            due("findings(" + f + ")", x.findings(f), 0);
        }
        due("BAD", DuckWalk.BAD, -1);
        due("FULL", DuckWalk.FULL, -2);
        due("FINDING", DuckWalk.FINDING, -3);
        due("STATE", DuckWalk.STATE, -4);
        due("SPENT", DuckWalk.SPENT, -6);
        due("NONE", DuckWalk.NONE, -9);
    }

    private static long on(long h, int... values) {
        for (int v : values) {
            h = 31 * h + v;
        }
        return h;
    }

    private static void digests() {
        promise = 46;
        DuckWalk x = new DuckWalk();
        long h = on(17, 0, 0, 0, 0, 0, 0, 0);
        due("digest() of a new one", x.digest(), on(h, -1, -1, -1, -1, -1, -1, -1, -1, -1, -1, -1, -1, -1, -1, -1, -1, -1, -1, -1));
        rowBy(x, 5, -3, LOW);
        x.text(0, 2);
        x.put(0, 1, 200);
        walkerBy(x, 1, "w?l2j3");
        boardBy(x, 3, "u4b2:1b99:5");
        x.walk(1, 3, 60, 8, 1);
        x.keep(0);
        // 8 + 12 + 3 - 4 - 4 = 15: DAMP 13; 2 and 1 went
        x.go(1);
        x.about(1, 0);
        h = on(17, 1, 1, 1, 1, 1, 1, 2);
        h = on(h, -1, 5, 5, 5, 2, 0, 3, 1, -1, -1);
        h = on(h, -1, -1, -1, 4);
        for (int step = 0; step < 100; step++) {
            h = on(h, step == 2 ? 1 : step == 99 ? 5 : 0);
        }
        h = on(h, 15, 0, 1, 0, 60, 4, 3);
        h = on(h, -1, -1, -1, -1, -1, 2, -3, LOW);
        h = on(h, 2, 32, -56, -1, -1, 11, 'u', '4', 'b', '2', ':', '1', 'b', '9', '9', ':', '5');
        due("digest()", x.digest(), h);
        due("asked() stays", x.asked(), 5);
    }
}
