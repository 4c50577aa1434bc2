import java.util.ArrayList;
import java.util.Arrays;
import java.util.List;

/**
 * Every call with arguments, in one table: of each argument the last numbers that are taken and the first
 * that are refused, what is missing, what is not now; in which order, and that nothing changes by it.
 */
public final class RefusalTests {
    private interface Op {
        int on(DuckWalk x, int[] a);
    }

    /**
     * One call. Its arguments by letters: k WALKER, b BOARD, r ROW, t TEXT, q kept WALK that must be
     * there; a dot for any other one. LOW or TOP: no number is too small, too large to be BAD.
     */
    private record Spec(int promise, String name, String needs, int[] base, int[] least, int[] most, Op op) {
        Due.Call with(int arg, int v) {
            int[] a = base.clone();
            a[arg] = v;
            return x -> op.on(x, a);
        }

        String told(int arg, int v) {
            int[] a = base.clone();
            a[arg] = v;
            return name + Arrays.toString(a);
        }
    }

    private static final List<Spec> SPECS = new ArrayList<>();

    private static int[] of(int... v) {
        return v;
    }

    public static void main(String[] args) {
        rowsAndTexts();
        walkersAndBoards();
        walks();
        goings();
        others();
        for (Spec s : SPECS) {
            ends(s);
            missing(s);
        }
        allMissing();
        notNow();
        spentOnes();
        inOrder();
        Due.end();
    }

    private static void rowsAndTexts() {
        SPECS.add(new Spec(2, "row", "..", of(0, 4), of(0, Due.LOW), of(5, 60), (x, a) -> x.row(a[0], a[1])));
        SPECS.add(new Spec(3, "lay", "r..", of(0, 1, 8), of(0, Due.LOW, Due.LOW), of(5, Due.TOP, Due.TOP),
            (x, a) -> x.lay(a[0], a[1], a[2])));
        SPECS.add(new Spec(4, "at", "r.", of(0, 1), of(0, Due.LOW), of(5, Due.TOP), (x, a) -> x.at(a[0], a[1])));
        SPECS.add(new Spec(5, "tear", "r", of(0), of(0), of(5), (x, a) -> x.tear(a[0])));
        SPECS.add(new Spec(6, "copy", "r.r..", of(0, 0, 1, 1, 2), of(0, Due.LOW, 0, Due.LOW, Due.LOW),
            of(5, Due.TOP, 5, Due.TOP, Due.TOP), (x, a) -> x.copy(a[0], a[1], a[2], a[3], a[4])));
        SPECS.add(new Spec(7, "mean", "r", of(0), of(0), of(5), (x, a) -> x.mean(a[0])));
        SPECS.add(new Spec(8, "text", "..", of(0, 4), of(0, Due.LOW), of(3, 80), (x, a) -> x.text(a[0], a[1])));
        SPECS.add(new Spec(9, "put", "t..", of(0, 1, 50), of(0, Due.LOW, Due.LOW), of(3, Due.TOP, Due.TOP),
            (x, a) -> x.put(a[0], a[1], a[2])));
        SPECS.add(new Spec(10, "fault of a WALKER", "t", of(0), of(0), of(3), (x, a) -> x.fault(a[0], false)));
        SPECS.add(new Spec(10, "fault of a BOARD", "t", of(0), of(0), of(3), (x, a) -> x.fault(a[0], true)));
    }

    private static void walkersAndBoards() {
        SPECS.add(new Spec(11, "walker", ".t", of(0, 0), of(0, 0), of(3, 3), (x, a) -> x.walker(a[0], a[1])));
        SPECS.add(new Spec(12, "board", ".t", of(0, 1), of(0, 0), of(3, 3), (x, a) -> x.board(a[0], a[1])));
        SPECS.add(new Spec(13, "about", "k.", of(0, 0), of(0, 0), of(3, 6), (x, a) -> x.about(a[0], a[1])));
        SPECS.add(new Spec(14, "rub", "b.", of(0, 0), of(0, 0), of(3, 99), (x, a) -> x.rub(a[0], a[1])));
        SPECS.add(new Spec(15, "wax", "k..", of(0, 0, 1), of(0, 0, 0), of(3, 1, 9),
            (x, a) -> x.wax(a[0], a[1], a[2])));
    }

    private static void walks() {
        SPECS.add(new Spec(16, "walk", "kb...", of(0, 0, 20, 10, 0), of(0, 0, 0, 0, 0), of(3, 3, 99, 99, 1),
            (x, a) -> x.walk(a[0], a[1], a[2], a[3], a[4])));
        SPECS.add(new Spec(17, "go", ".", of(1), of(0), of(400), (x, a) -> x.go(a[0])));
        SPECS.add(new Spec(18, "told", ".", of(0), of(0), of(6), (x, a) -> x.told(a[0])));
        SPECS.add(new Spec(19, "tocks", "..", of(2, 0), of(0, 0), of(60, 5), (x, a) -> x.tocks(a[0], a[1])));
        SPECS.add(new Spec(20, "tilt", ".", of(5), of(0), of(99), (x, a) -> x.tilt(a[0])));
        SPECS.add(new Spec(21, "keep", ".", of(0), of(0), of(2), (x, a) -> x.keep(a[0])));
        SPECS.add(new Spec(22, "on", "q", of(0), of(0), of(2), (x, a) -> x.on(a[0])));
    }

    private static void goings() {
        SPECS.add(new Spec(24, "going", "kb..", of(0, 0, 20, 10), of(0, 0, 0, 0), of(3, 3, 99, 99),
            (x, a) -> x.going(a[0], a[1], a[2], a[3])));
        SPECS.add(new Spec(25, "mark", "kb...", of(0, 0, 20, 10, 1), of(0, 0, 0, 0, 1), of(3, 3, 99, 99, 7),
            (x, a) -> x.mark(a[0], a[1], a[2], a[3], a[4])));
        SPECS.add(new Spec(26, "lines", "kb..", of(0, 0, 10, 1), of(0, 0, 0, 0), of(3, 3, 99, 7),
            (x, a) -> x.lines(a[0], a[1], a[2], a[3])));
        SPECS.add(new Spec(27, "begins", "kb.", of(0, 0, 20), of(0, 0, 0), of(3, 3, 99),
            (x, a) -> x.begins(a[0], a[1], a[2])));
        SPECS.add(new Spec(28, "mends", "kb...", of(0, 0, 20, 10, 1), of(0, 0, 0, 0, 1), of(3, 3, 99, 99, 20),
            (x, a) -> x.mends(a[0], a[1], a[2], a[3], a[4])));
        SPECS.add(new Spec(29, "wide", "kb.", of(0, 0, 10), of(0, 0, 0), of(3, 3, 99),
            (x, a) -> x.wide(a[0], a[1], a[2])));
        SPECS.add(new Spec(30, "mend", "kb..", of(0, 0, 20, 10), of(0, 0, 0, 0), of(3, 3, 99, 99),
            (x, a) -> x.mend(a[0], a[1], a[2], a[3])));
        SPECS.add(new Spec(31, "limp", "kbr", of(0, 0, 0), of(0, 0, 0), of(3, 3, 5),
            (x, a) -> x.limp(a[0], a[1], a[2])));
        SPECS.add(new Spec(32, "odds", "kbr", of(0, 0, 0), of(0, 0, 0), of(3, 3, 5),
            (x, a) -> x.odds(a[0], a[1], a[2])));
    }

    private static void others() {
        SPECS.add(new Spec(33, "part", "kb..", of(0, 0, 10, 0), of(0, 0, 0, 0), of(3, 3, 99, 3),
            (x, a) -> x.part(a[0], a[1], a[2], a[3])));
        SPECS.add(new Spec(34, "made", "kb..", of(0, 0, 20, 10), of(0, 0, 0, 0), of(3, 3, 99, 99),
            (x, a) -> x.made(a[0], a[1], a[2], a[3])));
        SPECS.add(new Spec(35, "would", "kb..", of(0, 0, 20, 10), of(0, 0, 0, 0), of(3, 3, 99, 99),
            (x, a) -> x.would(a[0], a[1], a[2], a[3])));
        SPECS.add(new Spec(36, "yard", "kb...", of(0, 0, 20, 10, 9), of(0, 0, 0, 0, 1), of(3, 3, 99, 99, 2000),
            (x, a) -> x.yard(a[0], a[1], a[2], a[3], a[4])));
        SPECS.add(new Spec(37, "push", "kb.", of(0, 0, 10), of(0, 0, 0), of(3, 3, 99),
            (x, a) -> x.push(a[0], a[1], a[2])));
        SPECS.add(new Spec(38, "bears", "kb...", of(0, 0, 20, 10, 1), of(0, 0, 0, 0, 0), of(3, 3, 99, 99, 99),
            (x, a) -> x.bears(a[0], a[1], a[2], a[3], a[4])));
        SPECS.add(new Spec(39, "meets", "kkb..", of(0, 0, 0, 20, 10), of(0, 0, 0, 0, 0), of(3, 3, 3, 99, 99),
            (x, a) -> x.meets(a[0], a[1], a[2], a[3], a[4])));
        SPECS.add(new Spec(43, "count", ".", of(0), of(0), of(6), (x, a) -> x.count(a[0])));
        SPECS.add(new Spec(45, "findings", ".", of(1), of(1), of(5), (x, a) -> x.findings(a[0])));
    }

    /** The last number that is taken and the first that is refused, at either end of each argument. */
    private static void ends(Spec s) {
        Due.says(0, "BAD -1 (a number that is none, or not as told)");
        for (int arg = 0; arg < s.base.length; arg++) {
            if (s.least[arg] != Due.LOW) {
                isBad(s, arg, s.least[arg] - 1);
                isBad(s, arg, Due.LOW);
            }
            if (s.most[arg] != Due.TOP) {
                isBad(s, arg, s.most[arg] + 1);
                isBad(s, arg, Due.TOP);
            }
            isTaken(s, arg, s.least[arg]);
            isTaken(s, arg, s.most[arg]);
        }
    }

    /** BAD is ahead of all others: in a new object, where all is missing, as where all is there. */
    private static void isBad(Spec s, int arg, int v) {
        Due.refused(s.told(arg, v), Due::full, s.with(arg, v), Due.BAD, 0);
        Due.refused(s.told(arg, v) + " of a new one", DuckWalk::new, s.with(arg, v), Due.BAD, 0);
        Due.refused(s.told(arg, v) + " of a spent one", Due::spent, s.with(arg, v), Due.BAD, 0);
    }

    private static void isTaken(Spec s, int arg, int v) {
        Due.holds(s.told(arg, v) + " is not BAD", s.with(arg, v).on(Due.full()) != Due.BAD);
    }

    /** Of all that must be there one alone is missing. */
    private static void missing(Spec s) {
        Due.says(0, "1 NOTHING (a ROW, a TEXT, a WALKER, a BOARD, a kept WALK that is missing)");
        for (int arg = 0; arg < s.base.length; arg++) {
            if (s.needs.charAt(arg) != '.') {
                int last = s.most[arg];
                Due.refused(s.told(arg, last), Due::lastMissing, s.with(arg, last), Due.FINDING, Due.NOTHING);
                Due.holds(s.told(arg, last - 1) + " is there",
                    s.with(arg, last - 1).on(Due.lastMissing()) != Due.FINDING);
            }
        }
    }

    /** In a new object each one of them is missing, and only one FINDING is counted of a call. */
    private static void allMissing() {
        Due.says(1, "No ROWS, TEXTS, WALKERS, BOARDS, WALK.");
        for (Spec s : SPECS) {
            for (int arg = 0; arg < s.base.length; arg++) {
                for (int v = s.least[arg]; s.needs.charAt(arg) != '.' && v <= s.most[arg]; v++) {
                    Due.refused(s.told(arg, v) + " of a new one", DuckWalk::new, s.with(arg, v), Due.FINDING,
                        Due.NOTHING);
                }
            }
        }
    }

    private static void notNow() {
        for (Due.Scene scene : List.<Due.Scene>of(DuckWalk::new, Due::noWalk)) {
            Due.says(17, "BAD; STATE: there is no WALK; SPENT: STEPS done and n are above 10000.");
            Due.refused("go(0)", scene, x -> x.go(0), Due.STATE, 0);
            Due.refused("go(400)", scene, x -> x.go(400), Due.STATE, 0);
            Due.says(18, "all told by asked(): 1. BAD; STATE.");
            for (int what = 0; what <= 6; what++) {
                int w = what;
                Due.refused("told(" + w + ")", scene, x -> x.told(w), Due.STATE, 0);
            }
            Due.says(19, "the WALK going on so: how many were done. BAD; STATE; SPENT.");
            Due.refused("tocks(0, 0)", scene, x -> x.tocks(0, 0), Due.STATE, 0);
            Due.refused("tocks(60, 5)", scene, x -> x.tocks(60, 5), Due.STATE, 0);
            Due.says(20, "The SLOPE of the WALK is s: what it was. BAD; STATE.");
            Due.refused("tilt(0)", scene, x -> x.tilt(0), Due.STATE, 0);
            Due.refused("tilt(99)", scene, x -> x.tilt(99), Due.STATE, 0);
            Due.says(21, "as it is: STEPS done. BAD; STATE.");
            Due.refused("keep(0)", scene, x -> x.keep(0), Due.STATE, 0);
            Due.refused("keep(2)", scene, x -> x.keep(2), Due.STATE, 0);
            Due.says(23, "by asked(). STATE.");
            Due.refused("turns()", scene, x -> x.turns(), Due.STATE, 0);
        }
    }

    private static void spentOnes() {
        Due.says(17, "SPENT: STEPS done and n are above 10000.");
        Due.refused("go(1)", Due::spent, x -> x.go(1), Due.SPENT, 0);
        Due.refused("go(400)", Due::spent, x -> x.go(400), Due.SPENT, 0);
        Due.says(19, "how many were done. BAD; STATE; SPENT.");
        Due.refused("tocks(1, 0)", Due::spent, x -> x.tocks(1, 0), Due.SPENT, 0);
        Due.refused("tocks(60, 1)", Due::spent, x -> x.tocks(60, 1), Due.SPENT, 0);
        Due.says(35, "BAD; NOTHING; SPENT: more than 3 are not told. (In this order.)");
        Due.Scene drawn = () -> {
            DuckWalk x = Due.lastMissing();
            Due.walkerBy(x, 1, "w?r?h?l?");
            return x;
        };
        Due.refused("would(), 4 not told", drawn, x -> x.would(1, 0, 20, 10), Due.SPENT, 0);
        Due.refused("and no BOARD", drawn, x -> x.would(1, 3, 20, 10), Due.FINDING, Due.NOTHING);
        Due.refused("and no SLOPE", drawn, x -> x.would(1, 0, 100, 10), Due.BAD, 0);
        Due.refused("and no PACE", drawn, x -> x.would(1, 3, 20, 100), Due.BAD, 0);
    }

    /** Two refusals or more would fit: the first one is answered, and it alone is counted. */
    private static void inOrder() {
        Due.says(0, "Refused is, the first of these that fits, in this order: BAD -1");
        Due.refused("row(6, -1)", Due::full, x -> x.row(6, -1), Due.BAD, 0);
        Due.refused("row(-1, 61)", Due::full, x -> x.row(-1, 61), Due.BAD, 0);
        Due.refused("text(4, -1)", Due::full, x -> x.text(4, -1), Due.BAD, 0);
        Due.refused("lay(5, 9, 0), missing", Due::lastMissing, x -> x.lay(5, 9, 0), Due.FINDING, Due.NOTHING);
        Due.refused("at(5, -1), missing", Due::lastMissing, x -> x.at(5, -1), Due.FINDING, Due.NOTHING);
        Due.refused("put(3, 80, 0), missing", Due::lastMissing, x -> x.put(3, 80, 0), Due.FINDING, Due.NOTHING);
        Due.refused("lay(6, 9, 0)", Due::full, x -> x.lay(6, 9, 0), Due.BAD, 0);
        Due.refused("at(-1, -1)", Due::full, x -> x.at(-1, -1), Due.BAD, 0);
        Due.refused("put(4, -1, 0)", Due::full, x -> x.put(4, -1, 0), Due.BAD, 0);
        Due.says(6, "(In this order.)");
        Due.refused("copy: BAD, SIZE", Due::full, x -> x.copy(6, 0, 0, 0, -1), Due.BAD, 0);
        Due.refused("copy: BAD, SIZE", Due::full, x -> x.copy(0, 0, -1, 0, -1), Due.BAD, 0);
        Due.refused("copy: BAD, NOTHING", Due::lastMissing, x -> x.copy(5, 0, 6, 0, 1), Due.BAD, 0);
        Due.refused("copy: SIZE, NOTHING", Due::lastMissing, x -> x.copy(5, 0, 5, 0, -1), Due.FINDING, Due.SIZE);
        Due.refused("copy: SIZE, BEYOND", Due::full, x -> x.copy(0, 9, 1, 9, Due.LOW), Due.FINDING, Due.SIZE);
        Due.refused("copy: NOTHING, BEYOND", Due::lastMissing, x -> x.copy(0, 9, 5, 0, 1), Due.FINDING, Due.NOTHING);
        Due.refused("copy: NOTHING, BEYOND", Due::lastMissing, x -> x.copy(5, 0, 0, -1, 1), Due.FINDING, Due.NOTHING);
        Due.says(31, "BAD; NOTHING: any; SIZE: fewer than 2; UNLIKE: not 0 .. 99.");
        Due.Scene one = () -> {
            DuckWalk x = Due.lastMissing();
            Due.rowBy(x, 1, 100);
            return x;
        };
        Due.refused("limp: BAD, NOTHING", one, x -> x.limp(3, 3, 6), Due.BAD, 0);
        Due.refused("limp: BAD, SIZE", one, x -> x.limp(4, 0, 1), Due.BAD, 0);
        Due.refused("limp: NOTHING, SIZE", one, x -> x.limp(3, 0, 1), Due.FINDING, Due.NOTHING);
        Due.refused("limp: NOTHING, SIZE", one, x -> x.limp(0, 3, 1), Due.FINDING, Due.NOTHING);
        Due.refused("limp: SIZE, UNLIKE", one, x -> x.limp(0, 0, 1), Due.FINDING, Due.SIZE);
        Due.says(32, "BAD; NOTHING; SIZE; UNLIKE as limp().");
        Due.refused("odds: BAD, NOTHING", one, x -> x.odds(3, 3, 6), Due.BAD, 0);
        Due.refused("odds: BAD, SIZE", one, x -> x.odds(0, 4, 1), Due.BAD, 0);
        Due.refused("odds: NOTHING, SIZE", one, x -> x.odds(3, 0, 1), Due.FINDING, Due.NOTHING);
        Due.refused("odds: NOTHING, SIZE", one, x -> x.odds(0, 3, 1), Due.FINDING, Due.NOTHING);
        Due.refused("odds: SIZE, UNLIKE", one, x -> x.odds(0, 0, 1), Due.FINDING, Due.SIZE);
    }
}
