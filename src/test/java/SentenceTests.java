/**
 * The document from its first line: the sentences that name no edge, in its order. EdgeTests has the edges;
 * DocumentTests sees that no sentence is left without a test.
 */
public final class SentenceTests {
    private static final int BAD = Due.BAD, STATE = Due.STATE, SPENT = Due.SPENT, NONE = Due.NONE;
    private static final int NOTHING = Due.NOTHING, UNLIKE = Due.UNLIKE;

    public static void main(String[] args) {
        fiveHundredTwelveCalls();
        refusalsChangeNothing();
        sets();
        walkersAreTexts();
        drawings();
        boardItems();
        numbers();
        steps();
        countedSteps();
        walks();
        roundTrips();
        kinds();
        walksWell();
        spans();
        wander();
        offs();
        marks();
        Due.end();
    }

    private static void fiveHundredTwelveCalls() {
        Due.says(0, "An object is used for at most 512 calls after it has been made; what later calls answer is free.");
        DuckWalk x = new DuckWalk();
        x.text(0, 8);
        int[] signs = {'w', '?', 'r', '?', 'h', '?', 'l', '5'};
        for (int i = 0; i < signs.length; i++) {
            x.put(0, i, signs[i]);
        }
        x.walker(0, 0);
        x.text(0, 0);
        x.board(0, 0);
        x.walk(0, 0, 20, 10, 0);
        // The 14th call; 124 rounds of 4 and go() come before the 512th.
        int would = x.would(0, 0, 20, 10);
        for (int n = 0; n < 124; n++) {
            x.wide(0, 0, n % 100);
            x.tocks(2, 0);
            x.limp(0, 0, 0);
            x.bears(0, 0, n % 100, 10, n % 100);
        }
        Due.due("the 511th call", x.go(1), 1);
        Due.due("the 512th call answers as the 14th", x.would(0, 0, 20, 10), would);
    }

    private static void refusalsChangeNothing() {
        Due.says(0, "What is refused changes nothing but finding(), findings(). FINDINGS: 1 NOTHING");
        Due.refused("BAD", Due::full, x -> x.tocks(61, 0), BAD, 0);
        Due.refused("STATE by a FAULT", Due::full, x -> x.walker(1, 3), STATE, 0);
        Due.refused("STATE by no WALK", Due::noWalk, x -> x.keep(0), STATE, 0);
        Due.refused("SPENT", Due::spent, x -> x.tocks(1, 0), SPENT, 0);
        Due.refused("NOTHING", Due::lastMissing, x -> x.on(2), Due.FINDING, NOTHING);
        Due.refused("BEYOND", Due::full, x -> x.lay(0, 3, 9), Due.FINDING, Due.BEYOND);
        Due.refused("UNLIKE", Due::full, x -> x.mark(0, 0, 20, 10, 5), Due.FINDING, UNLIKE);
        Due.refused("SIZE", Due::full, x -> x.row(0, -1), Due.FINDING, Due.SIZE);
    }

    private static void sets() {
        Due.says(0, "Sets are told by bits.");
        for (int bits = 0; bits < 16; bits++) {
            StringBuilder s = new StringBuilder();
            for (int n = 0; n < 4; n++) {
                s.append("wrhl".charAt(n)).append((bits >> n & 1) != 0 ? '?' : '4');
            }
            DuckWalk x = new DuckWalk();
            Due.due(s.toString(), Due.walkerBy(x, 2, s.toString()), Integer.bitCount(bits));
            Due.due("the set of " + s, Due.aboutOf(x, 2, 6), bits);
            for (int n = 0; n < 4; n++) {
                Due.due("size " + n + " of " + s, Due.aboutOf(x, 2, n), (bits >> n & 1) != 0 ? 5 : 4);
            }
        }
    }

    private static void walkersAreTexts() {
        Due.says(0, "A WALKER (0 .. 3, missing at first) is a TEXT:");
        DuckWalk x = new DuckWalk();
        // 119 w, 114 r, 104 h, 108 l, 105 i, 106 j; 49 is the figure 1
        int[] signs = {32, 119, 50, 114, 51, 104, 52, 108, 53, 105, 54, 106, 55, 32};
        x.text(0, signs.length);
        for (int i = 0; i < signs.length; i++) {
            x.put(0, i, signs[i]);
        }
        for (int k = 0; k <= 3; k++) {
            Due.finds(x, "WALKER " + k + " at first", x.about(k, 0), NOTHING);
            x.put(0, 2, 50 + k);
            Due.due("walker(" + k + ", 0)", x.walker(k, 0), 0);
        }
        for (int k = 0; k <= 3; k++) {
            int[] all = {2 + k, 3, 4, 5, 6, 7, 0};
            for (int what = 0; what <= 6; what++) {
                Due.tells(x, "about(" + k + ", " + what + ")", x.about(k, what), 1, all[what]);
            }
        }
    }

    /** What the calls that go by a WALKER answer of it, and tell. */
    private static int[] answersOf(DuckWalk x, int k) {
        Due.rowBy(x, 0, 10, 12, 9, 11);
        int[] all = {x.going(k, 0, 20, 9), x.asked(), x.mark(k, 0, 20, 9, 1), x.mark(k, 0, 30, 9, 2),
            x.lines(k, 0, 9, 1), x.asked(), x.begins(k, 0, 20), x.asked(), x.mends(k, 0, 20, 9, 2), x.wide(k, 0, 9),
            x.asked(), x.mend(k, 0, 20, 9), x.asked(), x.limp(k, 0, 0), x.asked(), x.odds(k, 0, 0),
            (int) x.upper(), (int) x.lower(), x.part(k, 0, 9, 3), x.asked(), x.made(k, 0, 20, 9), (int) x.upper(),
            (int) x.lower(), x.yard(k, 0, 20, 9, 50), x.asked(), x.push(k, 0, 9), x.asked(), x.bears(k, 0, 20, 9, 4),
            x.meets(k, 1, 0, 20, 9), x.walk(k, 0, 20, 9, 0), x.tocks(9, 1), Due.place(x, 1, 0), Due.place(x, 1, 8)};
        return all;
    }

    private static void drawings() {
        Due.says(0, "One that has a ? is a DRAWING: its sizes that are not told are 5, but for would().");
        String[] drawn = {"w?r?h?l?", "w?r6", "r?h4", "h?r6l4", "l?r6h4", "w7l?", "w?l?r7h3"};
        String[] like = {"", "r6", "h4", "r6l4", "r6h4", "w7", "r7h3"};
        for (int n = 0; n < drawn.length; n++) {
            DuckWalk x = Due.with(drawn[n] + "i1j1", "u2b1:1");
            Due.walkerBy(x, 1, like[n] + "i1j1");
            Due.due("one DRAWING", x.count(2), 1);
            int[] has = answersOf(x, 0);
            int[] due = answersOf(x, 1);
            for (int i = 0; i < due.length; i++) {
                Due.due("answer " + i + " of " + drawn[n], has[i], due[i]);
            }
        }
        DuckWalk y = Due.with("w5r6h4l?", "");
        int ways = 0;
        for (int legs = 1; legs <= 9; legs++) {
            Due.walkerBy(y, 1, "w5r6h4l" + legs);
            ways += y.going(1, 0, 20, 10) == 1 ? 1 : 0;
        }
        Due.holds("more ways than 5 alone", ways > 1);
        Due.due("but for would()", y.would(0, 0, 20, 10), ways);
    }

    private static void boardItems() {
        Due.says(0, "items: u (117) and a figure: RUB 0 .. 9 (1, if not told; the last told counts); b (98) t : (58) d: a BUMP (8 at most)");
        DuckWalk x = new DuckWalk();
        int[] signs = {117, 51, 98, 55, 58, 50, 98, 49, 50, 58, 57};
        x.text(2, signs.length);
        for (int i = 0; i < signs.length; i++) {
            x.put(2, i, signs[i]);
        }
        for (int k = 0; k <= 3; k++) {
            Due.finds(x, "BOARD " + k + " at first", x.rub(k, 0), NOTHING);
            x.put(2, 1, 51 + k);
            Due.due("board(" + k + ", 2)", x.board(k, 2), 2);
        }
        for (int k = 0; k <= 3; k++) {
            for (int step = 0; step <= 99; step++) {
                int bump = step == 7 ? 2 : step == 12 ? 9 : 0;
                Due.tells(x, "rub(" + k + ", " + step + ")", x.rub(k, step), 3 + k, bump);
            }
        }
    }

    private static void numbers() {
        Due.says(0, "SLOPES are 0 .. 99 (tenths of a degree). PACES are 0 and more. FEET are 0 LEFT, 1 RIGHT.");
        DuckWalk x = Due.with("l1i7j3", "");
        for (int slope = 0; slope <= 99; slope++) {
            Due.due("GAIN of SLOPE " + slope + " on LEFT", x.walk(0, 0, slope, slope, 0), slope / 10 + 7);
            Due.due("GAIN of SLOPE " + slope + " on RIGHT", x.walk(0, 0, slope, slope, 1), slope / 10 + 3);
        }
    }

    /** One STEP from each of some PACES: WALKER, BOARD, SLOPE, then PACE, FOOT and the PACE then, thrice. */
    private static void step(String walker, String board, int slope, int... all) {
        DuckWalk x = Due.with(walker, board);
        for (int n = 0; n + 2 < all.length; n += 3) {
            x.walk(0, 0, slope, all[n], all[n + 1]);
            Due.due("go(1)", x.go(1), 1);
            String what = walker + " on " + board + " from " + all[n] + " on FOOT " + all[n + 1];
            Due.due(what, Due.toldOf(x, 0), all[n + 2]);
            boolean ends = Due.toldOf(x, 3) != 0;
            Due.due(what + ": the next FOOT", Due.toldOf(x, 1), ends ? all[n + 1] : 1 - all[n + 1]);
        }
    }

    private static void steps() {
        Due.says(0, "A STEP from PACE p on a FOOT: GAIN is");
        Due.says(0, "The PACE then is p and GAIN together, less p times p by DAMP (cut), less RUB, less all BUMPS of that STEP.");
        // DAMP 16, GAIN 12 and WAX: 15 + 14 - 14 - 1 - 3; 15 + 13 - 14 - 1 - 3; 11 + 14 - 7 - 1 - 3; 12 + 14 - 9 - 4
        step("w5r6h4l5i2j1", "u1b0:3b1:9", 25, 15, 0, 11, 15, 1, 10, 11, 0, 14, 12, 0, 13);
        // DAMP 3, GAIN 23 (33 times 7 by 10), no RUB: 8 + 23 - 21; 9 + 23 - 27; 4 + 23 - 5; 10 + 23 - 33 RESTS
        step("w3r2h9l7", "u0", 33, 8, 0, 10, 9, 1, 5, 4, 0, 22, 10, 0, 0);
        // DAMP 25, GAIN 89 and 9, RUB 9, WIDE 9: 0 + 98 - 9; 6 + 98 - 1 - 9 FALLS; 99 + 98 - 392 - 9 RESTS
        step("w9r9h1l9i9", "u9", 99, 0, 0, 89, 6, 0, 94, 99, 0, 0, 6, 1, 85);
        // DAMP 1, GAIN 5, no RUB: 2 + 5 - 4 = 3; 3 + 5 - 9 RESTS; 0 + 5; 1 + 5 - 1
        step("w1r1h9l1i5j5", "u0", 9, 2, 0, 3, 3, 0, 0, 0, 1, 5, 1, 1, 5);
        // DAMP 13: BUMPS of one STEP together, 20 + 25 - 30 - 1 - 2 - 4 = 8
        step("", "b0:2b5:9b00:4", 50, 20, 0, 8, 20, 1, 8);
    }

    private static void countedSteps() {
        Due.says(0, "STEPS are 0, 1, .. (a WALK tells how many were done).");
        // DAMP 16, GAIN 10, RUB 1: 12 stays 12; the BUMP of STEP 3 is felt by the fourth one: 11, 13, 12
        DuckWalk x = Due.with("w5r6h4l5", "b3:1");
        x.walk(0, 0, 20, 12, 0);
        int[] paces = {12, 12, 12, 11, 13, 12};
        for (int n = 0; n < paces.length; n++) {
            Due.due("done ahead of STEP " + n, Due.toldOf(x, 2), n);
            x.go(1);
            Due.due("PACE behind STEP " + n, Due.toldOf(x, 0), paces[n]);
            Due.due("done behind STEP " + n, x.count(3), n + 1);
        }
    }

    private static void walks() {
        Due.says(0, "as they were when it was begun, on a SLOPE, from a PACE (0 .. 99) on a FOOT.");
        DuckWalk x = Due.with("w5r6h4l5j4", "");
        Due.due("no WALK at first", x.told(0), STATE);
        for (int pace = 0; pace <= 99; pace++) {
            Due.due("walk()", x.walk(0, 0, 99 - pace, pace, pace % 2), (99 - pace) * 5 / 10 + (pace % 2) * 4);
            Due.due("its PACE", Due.toldOf(x, 0), pace);
            if (pace % 9 == 0) {
                Due.due("its SLOPE", Due.toldOf(x, 4), 99 - pace);
                Due.due("its FOOT", Due.toldOf(x, 1), pace % 2);
            }
        }
    }

    private static void roundTrips() {
        Due.says(0, "A GOING is what becomes of a walker on a SLOPE, from a PACE, FOOT 0 first");
        Due.says(0, "after 400 STEPS at most: it RESTS, it FALLS, or, when PACE and FOOT come again as they were before, its ROUND TRIP is all STEPS between.");
        DuckWalk x = Due.with("w5r6h4l5i1", "");
        // LEFT 11, RIGHT 10: 13 on LEFT, 13 on RIGHT, 12 on LEFT, 13 on RIGHT: its PACE alone came again at first
        Due.tells(x, "PACE, but not FOOT", x.going(0, 0, 20, 13), 2, 2);
        Due.due("13 and 12", x.mark(0, 0, 20, 13, 2), 1);
        Due.walkerBy(x, 1, "w5r6h4l5");
        // 12 on LEFT, 12 on RIGHT, 12 on LEFT
        Due.tells(x, "from what it comes to", x.going(1, 0, 20, 12), 1, 2);
        // 3, 12, 12, 12; what is ahead of the ROUND TRIP is none of it
        Due.tells(x, "from another PACE", x.going(1, 0, 20, 3), 1, 2);
        // GAIN 25: 10, 28, 3, 27, 6, 28
        Due.tells(x, "all STEPS between", x.going(1, 0, 50, 10), 7, 4);
        // From 28 on LEFT: 28, 3, 27, 6, 28 on LEFT again
        Due.tells(x, "from within", x.going(1, 0, 50, 28), 7, 4);
        Due.tells(x, "it RESTS", x.going(1, 0, 50, 40), 4, 0);
        Due.walkerBy(x, 2, "w1r6h4l5");
        // 10 + 25 - 6 - 1 = 28 goes, 10 + 26 - 6 - 1 FALLS
        Due.tells(x, "28 goes", x.going(2, 0, 50, 10), 7, 4);
        Due.tells(x, "29 FALLS", x.going(2, 0, 52, 10), 5, 0);
    }

    private static void kinds() {
        Due.says(0, "KINDS: 0 GOING, 1 EVEN (a GOING: all PACES of the ROUND TRIP are alike), 2 LIMPING");
        Due.says(0, ", 3 MUDDLED (a GOING: a longer one, or none within 400), 4 STOPPING (a GOING: it RESTS), 5 FALLING (a GOING: it FALLS), 6 RUNNING");
        String[] walkers = {"w5r6h4l5", "w1r9h1l9", "w1r9h1l3i2j4", "w9r9h1l9i9j9", "w2r5h3l4i3j3"};
        int[] paces = {10, 3, 20, 15, 0};
        for (int n = 0; n < walkers.length; n++) {
            DuckWalk x = Due.with(walkers[n], "");
            int[] lines = new int[8];
            int[] kinds = new int[8];
            for (int kind = 0; kind <= 7; kind++) {
                lines[kind] = x.lines(0, 0, paces[n], kind);
            }
            for (int slope = 0; slope <= 99; slope++) {
                kinds[x.going(0, 0, slope, paces[n])]++;
            }
            Due.due("each one is a GOING", lines[0], 100);
            Due.due("just one of five", lines[1] + lines[2] + lines[3] + lines[4] + lines[5], 100);
            Due.due("no mere GOING", kinds[0], 0);
            Due.due("EVEN", lines[1], kinds[1] + kinds[6]);
            Due.due("LIMPING", lines[2], kinds[2] + kinds[7]);
            for (int kind = 3; kind <= 7; kind++) {
                Due.due("KIND " + kind, lines[kind], kinds[kind]);
            }
        }
    }

    /** DAMP 25, GAIN 10, RUB 1: 15 stays 15, above 14, the half of 28. */
    private static void walksWell() {
        Due.says(0, "WALKS well is a GOING that IS EVEN.");
        DuckWalk x = Due.with("w1r9h1l5", "");
        Due.due("RUNNING", x.going(0, 0, 20, 15), 6);
        Due.tells(x, "would()", x.would(0, 0, 20, 15), 1, 1915);
        Due.tells(x, "mend()", x.mend(0, 0, 20, 15), 0, 15);
        // 16 + 10 - 10 - 1 = 15
        Due.due("mends()", x.mends(0, 0, 20, 15, 1), 1);
        int begins = 0;
        int running = 0;
        for (int pace = 0; pace <= 99; pace++) {
            int kind = x.going(0, 0, 20, pace);
            begins += kind == 1 || kind == 6 ? 1 : 0;
            running += kind == 6 ? 1 : 0;
        }
        Due.holds("some of them run", running > 0);
        Due.due("begins()", x.begins(0, 0, 20), begins);
        // WAX 9 and a push of 1 on the flat are a GAIN of 10, too; on FOOT 0 alone: 15, 15, 14, 16
        Due.walkerBy(x, 1, "w1r9h1l5i9j9");
        Due.tells(x, "push()", x.push(1, 0, 15), 1, 1);
        Due.due("as by WAX", x.going(1, 0, 2, 15), 6);
        // LIMPING, STOPPING, FALLING do not WALK well.
        Due.walkerBy(x, 2, "w1r9h1l5i1");
        for (int slope : new int[] {20, 0, 99}) {
            Due.tells(x, "LIMPING, STOPPING, FALLING", x.would(2, 0, slope, 9), 0, NONE);
        }
    }

    private static void spans() {
        Due.says(0, "FORMS are ROUND 1 .. 9 and HIGH 1 .. 9 (all else as a walker's), by ROUND, then HIGH. A SPAN of a walker on a BOARD, from a PACE: how many SLOPES there are on which it WALKS well.");
        String walker = "w2l3i4j4";
        String board = "u3b0:9";
        int widest = -1;
        int form = 0;
        for (int round = 1; round <= 9; round++) {
            for (int high = 1; high <= 9; high++) {
                DuckWalk x = Due.with(walker + "r" + round + "h" + high, board);
                int span = 0;
                for (int slope = 0; slope <= 99; slope++) {
                    int kind = x.going(0, 0, slope, 7);
                    span += kind == 1 || kind == 6 ? 1 : 0;
                }
                Due.due("lines() of the FORM " + round + " " + high, x.lines(0, 0, 7, 1), span);
                if (span > widest) {
                    widest = span;
                    form = 10 * round + high;
                }
            }
        }
        DuckWalk y = Due.with(walker + "r1h9", board);
        Due.tells(y, "whatever its own FORM is", y.wide(0, 0, 7), form, widest);
        Due.walkerBy(y, 1, walker + "r9h1");
        Due.tells(y, "whatever its own FORM is", y.wide(1, 0, 7), form, widest);
    }

    private static void wander() {
        Due.says(0, "WANDER: WIDE, ROUND, HIGH of a walker each one less, as told, or one more");
        int[][] sizes = {{2, 8, 3}, {1, 9, 1}, {5, 6, 4}, {9, 1, 9}, {1, 5, 9}};
        for (int[] s : sizes) {
            int all = 0;
            int well = 0;
            for (int wide = Math.max(1, s[0] - 1); wide <= Math.min(9, s[0] + 1); wide++) {
                for (int round = Math.max(1, s[1] - 1); round <= Math.min(9, s[1] + 1); round++) {
                    for (int high = Math.max(1, s[2] - 1); high <= Math.min(9, s[2] + 1); high++) {
                        DuckWalk x = Due.with("w" + wide + "r" + round + "h" + high + "l5i1j1", "b0:9");
                        int kind = x.going(0, 0, 24, 14);
                        all++;
                        well += kind == 1 || kind == 6 ? 1 : 0;
                    }
                }
            }
            DuckWalk y = Due.with("w" + s[0] + "r" + s[1] + "h" + s[2] + "l5i1j1", "b0:9");
            Due.due("made()", y.made(0, 0, 24, 14), all);
            Due.holds("the part of them", y.upper() * all == y.lower() * well);
        }
    }

    /** OFF of one SLOPE and LEAD, by a WALK's own TOCKS. */
    private static int off(DuckWalk x, int slope, int lead, int[] tocks) {
        x.wax(0, 0, lead);
        x.wax(0, 1, 0);
        x.walk(0, 1, slope, tocks[0], 0);
        int done = x.tocks(tocks.length - 1, 1);
        boolean fell = Due.toldOf(x, 3) == 2;
        int off = 0;
        for (int i = 1; i < tocks.length; i++) {
            int heard = fell && i == done ? 0 : Due.place(x, 1, i - 1);
            off += Math.abs(heard - tocks[i]);
        }
        return off;
    }

    private static void offs() {
        Due.says(0, "TOCKS are a ROW of PACES, as one hears them, one behind the other. By a SLOPE and a LEAD (0 .. 9: WAX beneath LEFT; none beneath RIGHT) a walker has, from the first of them on FOOT 0");
        Due.says(0, ", just such a row: OFF is how far it is off from TOCKS, all together.");
        String[] walkers = {"w5r6h4l5j3", "w1r7h2l7i9j9", "w3r9h1l9", "w5r6h4l5i1"};
        int[][] rows = {{12, 16, 9, 17, 8}, {0, 27, 5}, {40, 3, 30, 99}, {9, 9, 0, 0, 0, 3}};
        for (int n = 0; n < walkers.length; n++) {
            int least = Integer.MAX_VALUE;
            int first = 0;
            int pairs = 0;
            int leading = 0;
            for (int slope = 0; slope <= 99; slope++) {
                DuckWalk x = Due.with(walkers[n], "u2b0:4b1:9");
                Due.boardBy(x, 1, "u2");
                for (int lead = 0; lead <= 9; lead++) {
                    int off = off(x, slope, lead, rows[n]);
                    if (off < least) {
                        least = off;
                        first = 10 * slope + lead;
                        pairs = 0;
                        leading = 0;
                    }
                    pairs += off == least ? 1 : 0;
                    leading += off == least && lead > 0 ? 1 : 0;
                }
            }
            DuckWalk y = Due.with(walkers[n], "u2b0:4b1:9");
            Due.rowBy(y, 0, rows[n]);
            Due.tells(y, "limp() of row " + n, y.limp(0, 0, 0), first, least);
            Due.due("odds() of row " + n, y.odds(0, 0, 0), pairs);
            Due.holds("the part that leads", y.upper() * pairs == y.lower() * leading);
        }
    }

    private static void marks() {
        Due.says(25, "What a GOING that IS of a KIND tells (1 .. 7): an EVEN one (RUNNING, too) its PACE, a LIMPING one (FOURS, too) how far PACES of its ROUND TRIP are apart at most, a MUDDLED one how many unlike PACES it has in all 400 STEPS (that behind each),");
        Due.says(25, "a RUNNING one by how much its PACE is below what it falls at, a FOURS one the least PACE of its ROUND TRIP.");
        DuckWalk x = Due.with("w5r6h4l5", "b0:9");
        Due.due("EVEN: 10, 13, 12, 12", x.mark(0, 0, 20, 10, 1), 12);
        Due.due("LIMPING: 10, 18, 12, 17, 13, 17", x.mark(0, 0, 30, 10, 2), 4);
        Due.due("FOURS as LIMPING: 28, 3, 27, 6", x.mark(0, 0, 50, 10, 2), 25);
        Due.due("FOURS", x.mark(0, 0, 50, 10, 7), 3);
        Due.walkerBy(x, 1, "w1r9h1l5");
        Due.due("RUNNING as EVEN", x.mark(1, 0, 20, 15, 1), 15);
        Due.due("RUNNING: 28 less 15", x.mark(1, 0, 20, 15, 6), 13);
        // No walker is ever MUDDLED: all that can be seen is that no other KIND is.
        for (int slope : new int[] {0, 20, 30, 50}) {
            Due.finds(x, "not MUDDLED on " + slope, x.mark(0, 0, slope, 10, 3), UNLIKE);
        }
    }
}
