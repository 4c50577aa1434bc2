/** Sentence by sentence: each boundary case that the document names, as its words have it. */
public final class EdgeTests {
    private static final int BAD = Due.BAD, STATE = Due.STATE, SPENT = Due.SPENT, NONE = Due.NONE;
    private static final int NOTHING = Due.NOTHING, BEYOND = Due.BEYOND, UNLIKE = Due.UNLIKE;
    private static final int NOUGHT = Due.NOUGHT, SIZE = Due.SIZE;
    private static final int LOW = Due.LOW, TOP = Due.TOP;

    public static void main(String[] args) {
        constants();
        newObject();
        rows();
        places();
        tearing();
        copying();
        means();
        texts();
        bytes();
        walkerTexts();
        walkerSigns();
        boardTexts();
        boardSigns();
        earlyEnds();
        walkers();
        boards();
        abouts();
        rubs();
        waxes();
        steps();
        fallsByWidth();
        bumps();
        walks();
        going400();
        spending();
        tolds();
        tocks();
        tilts();
        keeping();
        turning();
        kinds();
        marks();
        lines();
        begins();
        mends();
        wide();
        mend();
        limp();
        odds();
        parts();
        made();
        would();
        yards();
        pushes();
        bears();
        meets();
        askedByWhich();
        fractions();
        counts();
        findings();
        digests();
        Due.allPromises();
        Due.end();
    }

    // ======== rows

    private static void constants() {
        Due.says(0, "BAD -1 (a number that is none, or not as told), FULL -2, STATE -4 (not now), SPENT -6 (more than told), FINDING -3 (finding() tells which), unless a call says so otherwise. NONE -9.");
        int[] all = {DuckWalk.BAD, DuckWalk.FULL, DuckWalk.FINDING, DuckWalk.STATE, DuckWalk.SPENT, DuckWalk.NONE};
        int[] due = {-1, -2, -3, -4, -6, -9};
        for (int n = 0; n < all.length; n++) {
            Due.due("constant " + n, all[n], due[n]);
        }
    }

    private static void newObject() {
        Due.says(1, "No ROWS, TEXTS, WALKERS, BOARDS, WALK.");
        DuckWalk x = new DuckWalk();
        for (int what = 0; what <= 6; what++) {
            Due.due("count(" + what + ")", x.count(what), 0);
        }
        for (int r = 0; r <= 5; r++) {
            Due.finds(x, "at(" + r + ", 0)", x.at(r, 0), NOTHING);
        }
        for (int k = 0; k <= 3; k++) {
            Due.finds(x, "fault(" + k + ", true)", x.fault(k, true), NOTHING);
            Due.finds(x, "about(" + k + ", 0)", x.about(k, 0), NOTHING);
            Due.finds(x, "rub(" + k + ", 0)", x.rub(k, 0), NOTHING);
        }
        for (int k = 0; k <= 2; k++) {
            Due.finds(x, "on(" + k + ")", x.on(k), NOTHING);
        }
        Due.due("told(0)", x.told(0), STATE);
    }

    private static void rows() {
        Due.says(0, "ROWS 0 .. 5 are rows of 0 to 60 ints, TEXTS 0 .. 3 rows of 0 to 80 bytes, or missing (at first).");
        DuckWalk x = new DuckWalk();
        for (int r = 0; r <= 5; r++) {
            Due.due("row(" + r + ", 60)", x.row(r, 60), 60);
            Due.tells(x, "lay(" + r + ", 59, 9)", x.lay(r, 59, 9 + r), 1, 0);
        }
        for (int r = 0; r <= 5; r++) {
            Due.due("each ROW has its own places", Due.place(x, r, 59), 9 + r);
        }
        Due.says(2, "BAD: also n above 60; SIZE: below 0.");
        Due.due("row(0, 0)", x.row(0, 0), 0);
        Due.due("row(0, 1)", x.row(0, 1), 1);
        Due.due("row(0, 59)", x.row(0, 59), 59);
        Due.due("row(0, 60)", x.row(0, 60), 60);
        Due.refused("row(0, 61)", Due::full, y -> y.row(0, 61), BAD, 0);
        Due.refused("row(0, TOP)", Due::full, y -> y.row(0, TOP), BAD, 0);
        Due.refused("row(0, -1)", Due::full, y -> y.row(0, -1), Due.FINDING, SIZE);
        Due.refused("row(0, LOW)", Due::full, y -> y.row(0, LOW), Due.FINDING, SIZE);
        Due.refused("row(0, -1) of a new one", DuckWalk::new, y -> y.row(0, -1), Due.FINDING, SIZE);
        Due.says(2, "A ROW is there with n ints 0: n.");
        Due.rowBy(x, 1, 4, 5, 6);
        x.row(1, 2);
        Due.due("place 0 anew", Due.place(x, 1, 0), 0);
        Due.finds(x, "place 2 is none any more", x.at(1, 2), BEYOND);
        x.row(1, 60);
        for (int i = 0; i < 60; i++) {
            Due.tells(x, "place " + i, x.at(1, i), 1, 0);
        }
    }

    private static void places() {
        Due.says(3, "Place i of a ROW is v: what it was, told by asked(): 1. BAD; NOTHING; BEYOND.");
        DuckWalk x = new DuckWalk();
        x.row(0, 60);
        Due.tells(x, "lay(0, 0, LOW)", x.lay(0, 0, LOW), 1, 0);
        Due.tells(x, "lay(0, 0, TOP)", x.lay(0, 0, TOP), 1, LOW);
        Due.tells(x, "lay(0, 0, -1)", x.lay(0, 0, -1), 1, TOP);
        Due.tells(x, "lay(0, 59, 3)", x.lay(0, 59, 3), 1, 0);
        Due.says(4, "Place i of a ROW, told by asked(): 1. BAD; NOTHING; BEYOND.");
        Due.tells(x, "at(0, 0)", x.at(0, 0), 1, -1);
        Due.tells(x, "at(0, 59)", x.at(0, 59), 1, 3);
        int[] sizes = {0, 1, 3, 60};
        for (int n : sizes) {
            Due.Scene scene = () -> {
                DuckWalk y = Due.full();
                y.row(0, n);
                return y;
            };
            for (int i : new int[] {n, n + 1, -1, LOW, TOP}) {
                String of = ", " + i + ") of " + n;
                Due.says(0, "2 BEYOND (a place that there is not)");
                Due.refused("lay(0" + of, scene, y -> y.lay(0, i, 7), Due.FINDING, BEYOND);
                Due.refused("at(0" + of, scene, y -> y.at(0, i), Due.FINDING, BEYOND);
            }
            Due.due("the last place of " + n, scene.make().at(0, n - 1), n == 0 ? Due.FINDING : 1);
            Due.due("the first place of " + n, scene.make().lay(0, 0, 1), n == 0 ? Due.FINDING : 1);
        }
    }

    private static void tearing() {
        Due.says(5, "A ROW is missing: 1. BAD; NOTHING.");
        DuckWalk x = Due.full();
        for (int r = 0; r <= 5; r++) {
            Due.due("tear(" + r + ")", x.tear(r), 1);
            Due.finds(x, "tear(" + r + ") again", x.tear(r), NOTHING);
            Due.finds(x, "at(" + r + ", 0)", x.at(r, 0), NOTHING);
            Due.due("count(5)", x.count(5), 5 - r);
        }
        x.row(0, 0);
        Due.due("an empty one is torn, too", x.tear(0), 1);
        Due.finds(x, "and is missing", x.mean(0), NOTHING);
        Due.due("row(1, 3)", x.row(1, 3), 3);
        Due.due("nothing of the torn one", Due.place(x, 1, 0), 0);
    }

    private static void isRow(DuckWalk x, String what, int r, int... v) {
        for (int i = 0; i < v.length; i++) {
            Due.tells(x, what + ": place " + i, x.at(r, i), 1, v[i]);
        }
        Due.due(what + ": no more", x.at(r, v.length), Due.FINDING);
    }

    private static void copying() {
        Due.says(6, "n places of a ROW, from one on, come to those of another one (perhaps itself) from one on, as if taken ahead: 1.");
        DuckWalk x = new DuckWalk();
        Due.rowBy(x, 0, 1, 2, 3, 4);
        Due.rowBy(x, 1, 7, 8, 9);
        Due.due("all of it", x.copy(1, 0, 0, 1, 3), 1);
        isRow(x, "to the last place", 0, 1, 7, 8, 9);
        Due.due("up by one", x.copy(0, 0, 0, 1, 3), 1);
        isRow(x, "up", 0, 1, 1, 7, 8);
        Due.due("down by one", x.copy(0, 1, 0, 0, 3), 1);
        isRow(x, "down", 0, 1, 7, 8, 8);
        Due.due("onto itself", x.copy(0, 0, 0, 0, 4), 1);
        isRow(x, "onto itself", 0, 1, 7, 8, 8);
        Due.due("one", x.copy(0, 3, 1, 2, 1), 1);
        isRow(x, "one", 1, 7, 8, 8);
        Due.says(6, "BEYOND: not so many there (also with n 0, if i, j is below 0, or above its size).");
        Due.due("n 0 behind the last ones", x.copy(0, 4, 1, 3, 0), 1);
        Due.due("n 0 at the first ones", x.copy(0, 0, 1, 0, 0), 1);
        x.row(2, 0);
        Due.due("n 0 of empty ones", x.copy(2, 0, 2, 0, 0), 1);
        x.row(3, 60);
        Due.due("60", x.copy(3, 0, 3, 0, 60), 1);
        // The full one's ROWS are of 3 places.
        int[][] beyond = {{4, 0, 0}, {-1, 0, 0}, {0, 4, 0}, {0, -1, 0}, {LOW, 0, 0}, {TOP, 0, 0}, {0, LOW, 0},
            {0, TOP, 0}, {0, 0, 4}, {1, 0, 3}, {0, 1, 3}, {3, 0, 1}, {0, 3, 1}, {-1, 0, 1}, {0, -1, 1}, {0, 0, TOP},
            {1, 1, TOP}, {TOP, TOP, TOP}, {TOP, 0, 1}, {0, TOP, 1}, {LOW, LOW, TOP}};
        for (int[] b : beyond) {
            String args = b[0] + ", .., " + b[1] + ", " + b[2];
            Due.refused("copy(0, " + args, Due::full, y -> y.copy(0, b[0], 1, b[1], b[2]), Due.FINDING, BEYOND);
            Due.refused("copy(0, " + args + " to itself", Due::full, y -> y.copy(0, b[0], 0, b[1], b[2]), Due.FINDING,
                BEYOND);
        }
        Due.says(6, "BAD; SIZE: n below 0; NOTHING: either;");
        for (int r : new int[] {-1, 6, LOW, TOP}) {
            Due.refused("from ROW " + r, Due::full, y -> y.copy(r, 0, 1, 0, 1), BAD, 0);
            Due.refused("to ROW " + r, Due::full, y -> y.copy(0, 0, r, 0, 1), BAD, 0);
        }
        Due.refused("n -1", Due::full, y -> y.copy(0, 0, 1, 0, -1), Due.FINDING, SIZE);
        Due.refused("n LOW", Due::full, y -> y.copy(0, 0, 1, 0, LOW), Due.FINDING, SIZE);
        Due.refused("the first missing", Due::lastMissing, y -> y.copy(5, 0, 0, 0, 0), Due.FINDING, NOTHING);
        Due.refused("the other missing", Due::lastMissing, y -> y.copy(0, 0, 5, 0, 0), Due.FINDING, NOTHING);
        Due.refused("both missing", Due::lastMissing, y -> y.copy(5, 0, 5, 0, 0), Due.FINDING, NOTHING);
    }

    private static void means() {
        Due.says(7, "The mean of a ROW's ints, cut, told by asked(): 1. BAD; NOTHING; NOUGHT.");
        DuckWalk x = new DuckWalk();
        int[][] rows = {{5}, {0}, {1, 0}, {1, 2}, {-1, 0}, {-1, -2}, {TOP, LOW}, {TOP, TOP}, {LOW, LOW, LOW}, {9, 9, 8}};
        int[] means = {5, 0, 0, 1, 0, -1, 0, TOP, LOW, 8};
        for (int n = 0; n < rows.length; n++) {
            Due.rowBy(x, 0, rows[n]);
            Due.tells(x, "mean of row " + n, x.mean(0), 1, means[n]);
        }
        x.row(0, 60);
        for (int i = 0; i < 60; i++) {
            x.lay(0, i, LOW);
        }
        Due.tells(x, "mean of 60", x.mean(0), 1, LOW);
        Due.says(0, "4 NOUGHT (shared among none)");
        Due.Scene empty = () -> {
            DuckWalk y = Due.lastMissing();
            y.row(1, 0);
            return y;
        };
        Due.refused("mean of none", empty, y -> y.mean(1), Due.FINDING, NOUGHT);
        Due.refused("mean of a missing one", empty, y -> y.mean(5), Due.FINDING, NOTHING);
    }

    // ======== texts

    private static void texts() {
        Due.says(8, "BAD: also n above 80; SIZE: below 0.");
        DuckWalk x = new DuckWalk();
        Due.due("text(0, 0)", x.text(0, 0), 0);
        Due.due("text(1, 1)", x.text(1, 1), 1);
        Due.due("text(2, 79)", x.text(2, 79), 79);
        Due.due("text(3, 80)", x.text(3, 80), 80);
        Due.refused("text(0, 81)", Due::full, y -> y.text(0, 81), BAD, 0);
        Due.refused("text(0, TOP)", Due::full, y -> y.text(0, TOP), BAD, 0);
        Due.refused("text(0, -1)", Due::full, y -> y.text(0, -1), Due.FINDING, SIZE);
        Due.refused("text(0, LOW)", Due::full, y -> y.text(0, LOW), Due.FINDING, SIZE);
        Due.refused("text(0, -1) of a new one", DuckWalk::new, y -> y.text(0, -1), Due.FINDING, SIZE);
        Due.says(8, "A TEXT is there with n blanks: n.");
        for (int i = 0; i < 80; i++) {
            Due.due("put(3, " + i + ", 119)", x.put(3, i, 119), 1032);
        }
        x.text(3, 80);
        for (int i = 0; i < 80; i++) {
            Due.due("anew", x.put(3, i, 120), 1032);
        }
        x.text(3, 1);
        Due.finds(x, "a smaller one has no place 1", x.put(3, 1, 32), BEYOND);
        Due.due("nor what stood there", x.fault(3, false), NONE);
    }

    private static void bytes() {
        Due.says(9, "Byte i of a TEXT is v, cut to a byte (-128 .. 127): what it was, and 1000 more. BAD; NOTHING; BEYOND.");
        DuckWalk x = new DuckWalk();
        x.text(0, 80);
        int[] put = {127, 128, -128, -129, 255, 256, 0, -1, LOW, TOP, 1000};
        int[] was = {127, -128, -128, 127, -1, 0, 0, -1, 0, -1, -24};
        for (int n = 0; n < put.length; n++) {
            x.put(0, 79, put[n]);
            Due.due("what was put by " + put[n], x.put(0, 79, 32), 1000 + was[n]);
        }
        Due.due("the first place", x.put(0, 0, 5), 1032);
        for (int n : new int[] {0, 1, 80}) {
            Due.Scene scene = () -> {
                DuckWalk y = Due.full();
                y.text(0, n);
                return y;
            };
            for (int i : new int[] {n, n + 1, -1, LOW, TOP}) {
                Due.refused("put(0, " + i + ", 65) of " + n, scene, y -> y.put(0, i, 65), Due.FINDING, BEYOND);
            }
        }
    }

    private static void walkerTexts() {
        Due.says(0, "blanks (32) ahead, between, behind as many as wanted, none within items. Items (perhaps none)");
        String blanks = Due.many(" ", 78);
        for (String s : new String[] {"", " ", blanks + "  ", blanks + "w5", "w5" + blanks, "w5 r6", "w5r6", "w1    r2 "}) {
            Due.due("fault of '" + s + "'", Due.faultOf(s, false), NONE);
        }
        Due.due("a blank within", Due.faultOf("w 5", false), 1);
        Due.due("40 items", Due.faultOf(Due.many("w5", 40), false), NONE);
        Due.says(0, "a letter and a figure, or ? (63: not told; but of i, j)");
        Due.due("all not told", Due.faultOf("w?r?h?l?", false), NONE);
        Due.due("i?", Due.faultOf("w?i?", false), 3);
        Due.due("j?", Due.faultOf("w?j?", false), 3);
        Due.due("two figures", Due.faultOf("w12", false), 2);
        Due.due("two ?", Due.faultOf("w??", false), 2);
        Due.due("no figure, but a letter", Due.faultOf("wr5", false), 1);
        Due.says(0, "A FAULT is the first place at which it can't go on so");
        Due.due("the first of three", Due.faultOf("w5 r0 h0 x", false), 4);
        Due.says(10, "A FAULT of a TEXT of a WALKER (board: of a BOARD); NONE: there is none. BAD; NOTHING.");
        Due.due("a WALKER's TEXT is no BOARD's", Due.faultOf("w5", true), 0);
        Due.due("a BOARD's TEXT is no WALKER's", Due.faultOf("u5", false), 0);
        Due.none("none of a WALKER", Due::full, x -> x.fault(0, false));
        Due.none("none of a BOARD", Due::full, x -> x.fault(1, true));
        Due.refused("a FAULT is told, no more", Due::full, x -> x.fault(3, false), 1, 0);
    }

    /** What each of all bytes is, as a letter of a WALKER's TEXT and behind each letter. */
    private static void walkerSigns() {
        Due.says(0, "(a figure that is none such: its place;");
        for (int sign = -128; sign <= 127; sign++) {
            DuckWalk x = new DuckWalk();
            x.text(0, 2);
            x.put(0, 0, sign);
            x.put(0, 1, '5');
            int due = "wrhlij".indexOf((char) sign) >= 0 ? NONE : sign == 32 ? 1 : 0;
            Due.due("byte " + sign + " as a letter", x.fault(0, false), due);
            for (char letter : "wrhlij".toCharArray()) {
                String figures = letter == 'i' || letter == 'j' ? "0123456789" : "123456789?";
                x.put(0, 0, letter);
                x.put(0, 1, sign);
                due = figures.indexOf((char) sign) >= 0 ? NONE : 1;
                Due.due("byte " + sign + " behind " + letter, x.fault(0, false), due);
            }
        }
    }

    private static void boardTexts() {
        Due.says(0, "A BOARD (0 .. 3, missing at first) is a TEXT: blanks likewise;");
        String blanks = Due.many(" ", 76);
        for (String s : new String[] {"", " ", blanks + "    ", blanks + "b1:2", "b1:2" + blanks, "u1 b1:2u2", "  u1  "}) {
            Due.due("fault of '" + s + "'", Due.faultOf(s, true), NONE);
        }
        Due.says(0, "at STEP t (0 .. 99, one or two figures) that takes d (1 .. 9) of the PACE.");
        for (String s : new String[] {"b0:1", "b9:9", "b00:1", "b09:1", "b10:1", "b99:9"}) {
            Due.due("fault of " + s, Due.faultOf(s, true), NONE);
        }
        Due.due("no figure", Due.faultOf("b:1", true), 1);
        Due.due("three figures", Due.faultOf("b100:1", true), 3);
        Due.due("three figures", Due.faultOf("b001:1", true), 3);
        Due.due("d 0", Due.faultOf("b1:0", true), 3);
        Due.due("d 10", Due.faultOf("b1:10", true), 4);
        Due.due("a blank behind b", Due.faultOf("b 1:1", true), 1);
        Due.due("a blank behind t", Due.faultOf("b1 :1", true), 2);
        Due.due("a blank behind two figures", Due.faultOf("b12 :1", true), 3);
        Due.due("a blank ahead of d", Due.faultOf("b1: 1", true), 3);
        Due.says(0, "a BUMP (8 at most)");
        String eight = Due.many("b10:1", 8);
        Due.due("eight", Due.faultOf(eight, true), NONE);
        Due.due("eight, apart", Due.faultOf(Due.many("b1:1 ", 8), true), NONE);
        Due.says(0, "A FAULT likewise (a ninth BUMP: its letter).");
        Due.due("nine", Due.faultOf(eight + "b1:1", true), 40);
        Due.due("nine, apart", Due.faultOf(eight + "  u3 b1:1", true), 45);
        Due.due("the ninth is no whole one", Due.faultOf(eight + "b", true), 40);
        Due.due("the eighth is no whole one", Due.faultOf(Due.many("b1:1", 7) + "b", true), 29);
        Due.due("RUB behind eight", Due.faultOf(eight + "u3", true), NONE);
        Due.due("a RUB behind eight that is none", Due.faultOf(eight + "u", true), 41);
        Due.due("ten, at the ninth", Due.faultOf(Due.many("b1:1", 10), true), 32);
    }

    /** What each of all bytes is, as a letter of a BOARD's TEXT and behind each part of an item. */
    private static void boardSigns() {
        Due.says(0, "u (117) and a figure: RUB 0 .. 9");
        for (int sign = -128; sign <= 127; sign++) {
            char c = (char) (sign & 255);
            boolean isFigure = sign >= '0' && sign <= '9';
            Due.due(sign + " as a letter", Due.faultOf(c + "5", true), sign == 'u' ? NONE : sign == ' ' || sign == 'b' ? (sign == 'b' ? 2 : 1) : 0);
            Due.due(sign + " behind u", Due.faultOf("u" + c, true), isFigure ? NONE : 1);
            Due.due(sign + " behind b", Due.faultOf("b" + c + ":1", true), isFigure ? NONE : 1);
            Due.due(sign + " behind b1", Due.faultOf("b1" + c + ":1", true), isFigure ? NONE : sign == ':' ? 3 : 2);
            Due.due(sign + " behind b12", Due.faultOf("b12" + c + "1", true), sign == ':' ? NONE : 3);
            Due.due(sign + " behind b1:", Due.faultOf("b1:" + c, true), isFigure && sign != '0' ? NONE : 3);
        }
    }

    private static void earlyEnds() {
        Due.says(0, "the TEXT's size, if its end comes too early)");
        for (char letter : "wrhlij".toCharArray()) {
            Due.due("" + letter, Due.faultOf("" + letter, false), 1);
            Due.due("w5" + letter, Due.faultOf("w5" + letter, false), 3);
            Due.due("80 with " + letter, Due.faultOf(Due.many(" ", 79) + letter, false), 80);
        }
        for (String s : new String[] {"u", "b", "b1", "b12", "b1:", "b12:", "u3b", "u3 b4", " b4:1b5:"}) {
            Due.due(s, Due.faultOf(s, true), s.length());
            Due.due("80 with " + s, Due.faultOf(Due.many(" ", 80 - s.length()) + s, true), 80);
        }
        DuckWalk x = new DuckWalk();
        Due.write(x, 0, "w5r6");
        x.text(0, 3);
        x.put(0, 2, 'r');
        Due.due("what stood behind the end is none of it", x.fault(0, false), 3);
        Due.write(x, 0, "b1:2");
        Due.due("a FAULT is none of the next TEXT's", x.fault(0, true), NONE);
        Due.due("a BOARD's TEXT is no WALKER's", x.fault(0, false), 0);
        Due.write(x, 1, "w5");
        Due.due("a FAULT is none of the next TEXT's", x.fault(1, false), NONE);
        x.text(0, 3);
        x.put(0, 0, 'b');
        x.put(0, 1, '1');
        x.put(0, 2, ':');
        Due.due("likewise of a BOARD", x.fault(0, true), 3);
        Due.write(x, 0, "u2");
        Due.due("a FAULT is none of the next BOARD's", x.fault(0, true), NONE);
    }

    // ======== walkers, boards

    private static void isWalker(DuckWalk x, String what, int k, int... all) {
        for (int n = 0; n < all.length; n++) {
            Due.tells(x, what + ": about(" + k + ", " + n + ")", x.about(k, n), 1, all[n]);
        }
    }

    private static void walkers() {
        Due.says(0, "w (119) WIDE 1 .. 9 (5, if not told in the TEXT at all), r (114) ROUND 1 .. 9 (5), h (104) HIGH 1 .. 9 (5), l (108) LEGS 1 .. 9 (5), i (105) LEFT 0 .. 9, j (106) RIGHT 0 .. 9: WAX beneath either foot (0).");
        DuckWalk x = new DuckWalk();
        Due.due("none told", Due.walkerBy(x, 0, ""), 0);
        isWalker(x, "none told", 0, 5, 5, 5, 5, 0, 0, 0);
        Due.due("the least", Due.walkerBy(x, 1, "w1r1h1l1i0j0"), 0);
        isWalker(x, "the least", 1, 1, 1, 1, 1, 0, 0, 0);
        Due.due("the most", Due.walkerBy(x, 3, "w9r9h9l9i9j9"), 0);
        isWalker(x, "the most", 3, 9, 9, 9, 9, 9, 9, 0);
        for (int n = 0; n < 6; n++) {
            int[] all = {5, 5, 5, 5, 0, 0, 0};
            all[n] = 7;
            Due.walkerBy(x, 2, "wrhlij".substring(n, n + 1) + "7");
            isWalker(x, "one alone", 2, all);
        }
        Due.says(0, "of a letter told again the last one counts");
        Due.due("again", Due.walkerBy(x, 2, "w1w9r9r1h?h2l3l?i4i0j0j6"), 1);
        isWalker(x, "again", 2, 9, 1, 2, 5, 0, 6, 8);
        Due.says(11, "A WALKER by a TEXT (anew): how many sizes of w, r, h, l are not told (a ? last).");
        String[] drawn = {"w?", "r?", "h?", "l?", "w?r?", "h?l?w?", "w?r?h?l?", "w?w?", "w?w5", "w5w?"};
        int[] sizes = {1, 1, 1, 1, 2, 3, 4, 1, 0, 1};
        int[] bits = {1, 2, 4, 8, 3, 13, 15, 1, 0, 1};
        for (int n = 0; n < drawn.length; n++) {
            Due.due(drawn[n], Due.walkerBy(x, 2, drawn[n] + "i3"), sizes[n]);
            isWalker(x, drawn[n], 2, 5, 5, 5, 5, 3, 0, bits[n]);
            Due.due(drawn[n] + " is a DRAWING", x.count(2), bits[n] == 0 ? 0 : 1);
        }
        Due.due("nothing stays of what it was", Due.walkerBy(x, 2, " "), 0);
        isWalker(x, "anew", 2, 5, 5, 5, 5, 0, 0, 0);
        Due.write(x, 3, "w9");
        isWalker(x, "the TEXT may change", 2, 5, 5, 5, 5, 0, 0, 0);
        isWalker(x, "the first one stays", 1, 1, 1, 1, 1, 0, 0, 0);
        Due.says(11, "BAD; NOTHING; STATE: a FAULT. (STATE behind NOTHING.)");
        Due.refused("a FAULT at its end", Due::full, y -> y.walker(0, 3), STATE, 0);
        Due.refused("a FAULT at its first place", Due::full, y -> y.walker(2, 1), STATE, 0);
        Due.refused("no TEXT", Due::lastMissing, y -> y.walker(3, 3), Due.FINDING, NOTHING);
        DuckWalk z = new DuckWalk();
        Due.write(z, 0, "w1r");
        Due.due("a FAULT, of a missing one", z.walker(0, 0), STATE);
        Due.finds(z, "it stays missing", z.about(0, 0), NOTHING);
    }

    private static void boards() {
        Due.says(0, "RUB 0 .. 9 (1, if not told; the last told counts)");
        DuckWalk x = new DuckWalk();
        Due.due("none told", Due.boardBy(x, 0, ""), 0);
        Due.tells(x, "RUB 1", x.rub(0, 0), 1, 0);
        for (int u = 0; u <= 9; u++) {
            Due.boardBy(x, 1, "u5u" + u);
            Due.due("RUB " + u, x.rub(1, 0), u);
        }
        Due.says(12, "A BOARD by a TEXT (anew): how many BUMPS.");
        Due.due("eight, of one STEP", Due.boardBy(x, 2, Due.many("b7:9", 8) + " u0"), 8);
        Due.tells(x, "all together", x.rub(2, 7), 0, 72);
        Due.tells(x, "none of STEP 6", x.rub(2, 6), 0, 0);
        Due.tells(x, "none of STEP 8", x.rub(2, 8), 0, 0);
        Due.due("at either end", Due.boardBy(x, 2, "b0:1b99:9b00:2"), 3);
        Due.tells(x, "STEP 0", x.rub(2, 0), 1, 3);
        Due.tells(x, "STEP 99", x.rub(2, 99), 1, 9);
        Due.tells(x, "STEP 7 anew", x.rub(2, 7), 1, 0);
        Due.due("no BUMPS any more", Due.boardBy(x, 2, "u3"), 0);
        Due.tells(x, "STEP 99 anew", x.rub(2, 99), 3, 0);
        Due.write(x, 3, "u9");
        Due.tells(x, "the TEXT may change", x.rub(2, 0), 3, 0);
        Due.says(12, "BAD; NOTHING; STATE: a FAULT. (STATE behind NOTHING.)");
        Due.refused("a FAULT", Due::full, y -> y.board(0, 0), STATE, 0);
        Due.refused("no TEXT", Due::lastMissing, y -> y.board(0, 3), Due.FINDING, NOTHING);
        Due.Scene nine = () -> {
            DuckWalk y = Due.full();
            Due.write(y, 2, "u7" + Due.many("b1:1", 9));
            return y;
        };
        Due.refused("nine BUMPS", nine, y -> y.board(1, 2), STATE, 0);
        DuckWalk z = new DuckWalk();
        Due.write(z, 0, "b1:");
        Due.due("a FAULT, of a missing one", z.board(0, 0), STATE);
        Due.finds(z, "it stays missing", z.rub(0, 0), NOTHING);
    }

    private static void abouts() {
        Due.says(13, "Of a WALKER: 0 WIDE, 1 ROUND, 2 HIGH, 3 LEGS, 4 LEFT, 5 RIGHT, 6 which of the first four are not told (bits), all told by asked(): 1. BAD; NOTHING.");
        isWalker(Due.with("w1r2h3l4i5j6", ""), "each one unlike", 0, 1, 2, 3, 4, 5, 6, 0);
        DuckWalk x = Due.with("w?l?i2", "");
        Due.tells(x, "the first", x.about(0, 0), 1, 5);
        Due.tells(x, "the last", x.about(0, 6), 1, 9);
        Due.refused("7", Due::full, y -> y.about(0, 7), BAD, 0);
        Due.refused("-1", Due::full, y -> y.about(0, -1), BAD, 0);
        Due.refused("7 of a missing one", Due::lastMissing, y -> y.about(3, 7), BAD, 0);
    }

    private static void rubs() {
        Due.says(14, "RUB of a BOARD; all BUMPS of a STEP (0 .. 99) together by asked(). BAD; NOTHING.");
        DuckWalk x = Due.with("", "u0b0:3b99:4b98:5b0:6");
        Due.tells(x, "STEP 0", x.rub(0, 0), 0, 9);
        Due.tells(x, "STEP 1", x.rub(0, 1), 0, 0);
        Due.tells(x, "STEP 98", x.rub(0, 98), 0, 5);
        Due.tells(x, "STEP 99", x.rub(0, 99), 0, 4);
        Due.refused("STEP 100", Due::full, y -> y.rub(0, 100), BAD, 0);
        Due.refused("STEP -1", Due::full, y -> y.rub(0, -1), BAD, 0);
        Due.refused("STEP 100 of a missing one", Due::lastMissing, y -> y.rub(3, 100), BAD, 0);
    }

    private static void waxes() {
        Due.says(15, "WAX beneath a FOOT of a WALKER is v (0 .. 9): what it was. BAD; NOTHING.");
        DuckWalk x = Due.with("i9j0", "");
        Due.due("LEFT 9 to 0", x.wax(0, 0, 0), 9);
        Due.due("LEFT 0 to 0", x.wax(0, 0, 0), 0);
        Due.due("RIGHT 0 to 9", x.wax(0, 1, 9), 0);
        isWalker(x, "both", 0, 5, 5, 5, 5, 0, 9, 0);
        for (int v : new int[] {-1, 10, LOW, TOP}) {
            Due.refused("WAX " + v, Due::full, y -> y.wax(0, 0, v), BAD, 0);
            Due.refused("WAX " + v, Due::full, y -> y.wax(0, 1, v), BAD, 0);
        }
        Due.says(0, "FEET are 0 LEFT, 1 RIGHT.");
        for (int foot : new int[] {-1, 2, LOW, TOP}) {
            Due.refused("FOOT " + foot, Due::full, y -> y.wax(0, foot, 1), BAD, 0);
            Due.refused("FOOT " + foot, Due::full, y -> y.walk(0, 0, 1, 1, foot), BAD, 0);
        }
    }

    // ======== steps and walks

    private static void steps() {
        Due.says(0, "GAIN is SLOPE times LEGS, that by 10 (cut), and the WAX beneath the FOOT together.");
        DuckWalk x = Due.with("l1i9j8", "");
        int[] slopes = {0, 9, 10, 19, 20, 99};
        int[] gains = {0, 0, 1, 1, 2, 9};
        for (int n = 0; n < slopes.length; n++) {
            Due.due("SLOPE " + slopes[n], x.walk(0, 0, slopes[n], 0, 0), gains[n] + 9);
            Due.due("SLOPE " + slopes[n], x.walk(0, 0, slopes[n], 0, 1), gains[n] + 8);
        }
        Due.walkerBy(x, 1, "l9i9");
        Due.due("the most GAIN", x.walk(1, 0, 99, 0, 0), 98);
        Due.due("SLOPE 1", x.walk(1, 0, 1, 0, 1), 0);
        Due.due("SLOPE 2", x.walk(1, 0, 2, 0, 1), 1);
        Due.says(0, "DAMP is 8 and 2 times ROUND together, less HIGH.");
        int[][] forms = {{1, 9, 9801}, {1, 1, 1089}, {9, 1, 392}, {9, 9, 576}, {5, 5, 753}};
        for (int[] f : forms) {
            Due.walkerBy(x, 2, "r" + f[0] + "h" + f[1]);
            x.walk(2, 0, 99, 99, 0);
            x.go(1);
            Due.due("99 times 99 by DAMP of ROUND " + f[0] + ", HIGH " + f[1], Due.toldOf(x, 5), f[2]);
            Due.due("it RESTS", Due.toldOf(x, 3), 1);
        }
        Due.says(0, "If it is below 3, the WALKER RESTS (its PACE is 0 then);");
        // From PACE 0 the PACE then is GAIN less RUB: by LEGS 5 and SLOPE 2 s GAIN is s.
        DuckWalk y = Due.with("w1l5", "u0");
        for (int p = 0; p <= 4; p++) {
            y.walk(0, 0, 2 * p, 0, 0);
            Due.due("one STEP", y.go(1), 1);
            Due.due("PACE " + p, Due.toldOf(y, 0), p < 3 ? 0 : p);
            Due.due("PACE " + p + " RESTS", Due.toldOf(y, 3), p < 3 ? 1 : 0);
            Due.due("the next FOOT", Due.toldOf(y, 1), p < 3 ? 0 : 1);
            Due.due("it is done", Due.toldOf(y, 2), 1);
            y.walk(0, 0, 2 * p, 0, 1);
            y.go(1);
            Due.due("the next FOOT behind RIGHT", Due.toldOf(y, 1), p < 3 ? 1 : 0);
        }
        Due.boardBy(y, 1, "u9" + Due.many("b0:9", 8));
        y.walk(0, 1, 0, 0, 0);
        y.go(1);
        Due.due("far below 0", Due.toldOf(y, 0), 0);
        Due.due("it RESTS", Due.toldOf(y, 3), 1);
    }

    private static void fallsByWidth() {
        Due.says(0, "if it is above 20 and 8 times WIDE together, it FALLS; else the next STEP is on the other FOOT.");
        for (int wide = 1; wide <= 9; wide++) {
            // Without RUB, from PACE 0, by LEGS 9 and WAX 9: SLOPE times 9 by 10, and 9, is the PACE then.
            DuckWalk x = Due.with("w" + wide + "l9i9j9", "u0");
            int edge = 20 + 8 * wide;
            for (int pace = edge - 1; pace <= edge + 1; pace++) {
                int slope = ((pace - 9) * 10 + 8) / 9;
                Due.due("GAIN", x.walk(0, 0, slope, 0, 0), pace);
                x.go(1);
                Due.due("PACE " + pace, Due.toldOf(x, 0), pace);
                Due.due("PACE " + pace + " of WIDE " + wide, Due.toldOf(x, 3), pace > edge ? 2 : 0);
                Due.due("the next FOOT", Due.toldOf(x, 1), pace > edge ? 0 : 1);
                Due.due("a GOING FALLS at once", x.mark(0, 0, slope, 0, 5) == 1 ? 1 : 0, pace > edge ? 1 : 0);
            }
        }
        // 40 + 49 - 64 - 1 = 24: DAMP 25. It falls by a STEP, not by what it is begun with.
        DuckWalk x = Due.with("w1r9h1l5", "");
        x.walk(0, 0, 99, 40, 0);
        x.go(1);
        Due.due("begun above 28", Due.toldOf(x, 3), 0);
        Due.due("its PACE", Due.toldOf(x, 0), 24);
        Due.says(0, "One that RESTS or FALLS does no STEP more.");
        for (int slope : new int[] {0, 99}) {
            x.walk(0, 0, slope, 3, 1);
            Due.due("go(400)", x.go(400), 1);
            int end = slope == 0 ? 1 : 2;
            Due.due("its end", Due.toldOf(x, 3), end);
            int pace = Due.toldOf(x, 0);
            x.tilt(20);
            Due.due("go(400) again", x.go(400), 0);
            Due.due("tocks(3, 0)", x.tocks(3, 0), 0);
            isRow(x, "no TOCKS", 0, 0, 0, 0);
            Due.due("its PACE stays", Due.toldOf(x, 0), pace);
            Due.due("its STEPS stay", Due.toldOf(x, 2), 1);
            Due.due("its end stays", Due.toldOf(x, 3), end);
        }
    }

    private static void bumps() {
        Due.says(0, "less RUB, less all BUMPS of that STEP.");
        // DAMP 16, GAIN 10: from 12 to 12 by RUB 1; by a BUMP of 9 to 3, and from that to 12 again.
        DuckWalk x = Due.with("w5r6h4l5", "b0:2b0:7b99:9");
        x.walk(0, 0, 20, 12, 0);
        x.go(1);
        Due.due("behind STEP 0", Due.toldOf(x, 0), 3);
        x.go(1);
        Due.due("behind STEP 1", Due.toldOf(x, 0), 12);
        x.go(97);
        Due.due("behind STEP 98", Due.toldOf(x, 0), 12);
        x.go(1);
        Due.due("behind STEP 99", Due.toldOf(x, 0), 3);
        for (int n = 100; n < 110; n++) {
            x.go(1);
            Due.due("behind STEP " + n, Due.toldOf(x, 0), 12);
        }
        x.go(90);
        Due.due("STEPS from 100 on have none: behind STEP 199", Due.toldOf(x, 0), 12);
        Due.boardBy(x, 1, "u0");
        x.walk(0, 1, 20, 12, 0);
        x.go(1);
        Due.due("RUB 0", Due.toldOf(x, 0), 13);
        Due.boardBy(x, 1, "u9");
        x.walk(0, 1, 20, 12, 0);
        x.go(1);
        Due.due("RUB 9", Due.toldOf(x, 0), 4);
    }

    private static void walks() {
        Due.says(16, "A WALK is begun: its GAIN on the first FOOT. BAD; NOTHING: either.");
        DuckWalk x = Due.with("w5r6h4l5i2j1", "b1:3");
        Due.due("the least", x.walk(0, 0, 0, 0, 0), 2);
        Due.due("the most", x.walk(0, 0, 99, 99, 1), 50);
        int[] begun = {99, 1, 0, 0, 99, 0, 0};
        for (int what = 0; what <= 6; what++) {
            Due.tells(x, "at first told(" + what + ")", x.told(what), 1, begun[what]);
        }
        for (int v : new int[] {-1, 100, LOW, TOP}) {
            Due.refused("SLOPE " + v, Due::full, y -> y.walk(0, 0, v, 10, 0), BAD, 0);
            Due.refused("PACE " + v, Due::full, y -> y.walk(0, 0, 10, v, 0), BAD, 0);
        }
        Due.refused("no WALKER", Due::lastMissing, y -> y.walk(3, 0, 5, 5, 0), Due.FINDING, NOTHING);
        Due.refused("no BOARD", Due::lastMissing, y -> y.walk(0, 3, 5, 5, 0), Due.FINDING, NOTHING);
        Due.refused("neither", Due::lastMissing, y -> y.walk(3, 3, 5, 5, 0), Due.FINDING, NOTHING);
        Due.says(0, "A WALK (none at first) goes by a WALKER and a BOARD as they were when it was begun");
        // 10 + 12 - 6 - 1 = 15, 15 + 11 - 14 - 1 - 3 = 8, 8 + 12 - 4 - 1 = 15
        x.walk(0, 0, 20, 10, 0);
        x.wax(0, 0, 9);
        x.wax(0, 1, 9);
        Due.walkerBy(x, 0, "w1r1h1l1i5");
        Due.boardBy(x, 0, "u9b0:9b2:9");
        x.tocks(3, 0);
        isRow(x, "as they were", 0, 15, 8, 15);
        Due.due("it heads as its own WAX has it", x.turns(), 357);
        x.walk(0, 0, 20, 10, 0);
        Due.due("a new one goes by the new ones", Due.toldOf(x, 2), 0);
        x.go(9);
        Due.due("and RESTS", Due.toldOf(x, 3), 1);
    }

    private static void going400() {
        Due.says(17, "n (0 .. 400) STEPS are done (as many as it does): how many were.");
        DuckWalk x = Due.with("w5r6h4l5", "b5:9b5:9");
        x.walk(0, 0, 20, 12, 0);
        Due.due("go(0)", x.go(0), 0);
        Due.due("none done", Due.toldOf(x, 2), 0);
        Due.due("go(5)", x.go(5), 5);
        Due.due("it RESTS by STEP 5", x.go(400), 1);
        Due.due("STEPS done", Due.toldOf(x, 2), 6);
        Due.due("none more", x.go(400), 0);
        Due.due("none of none", x.go(0), 0);
        x.walk(0, 0, 20, 12, 0);
        Due.due("no more than it does", x.go(400), 6);
        for (int v : new int[] {-1, 401, LOW, TOP}) {
            Due.refused("go(" + v + ")", Due::full, y -> y.go(v), BAD, 0);
        }
        DuckWalk z = Due.with("w5r6h4l5", "");
        z.walk(0, 0, 20, 12, 0);
        Due.due("go(400)", z.go(400), 400);
    }

    /** A WALK of 9999 STEPS. */
    private static DuckWalk nearlySpent() {
        DuckWalk x = Due.with("w5r6h4l5", "");
        x.walk(0, 0, 20, 12, 0);
        for (int n = 0; n < 24; n++) {
            x.go(400);
        }
        x.go(399);
        Due.rowBy(x, 0, 4, 5);
        return x;
    }

    private static void spending() {
        Due.says(17, "SPENT: STEPS done and n are above 10000.");
        Due.due("9999", nearlySpent().count(3), 9999);
        Due.due("9999 and 1", nearlySpent().go(1), 1);
        Due.due("9999 and 0", nearlySpent().go(0), 0);
        Due.refused("9999 and 2", EdgeTests::nearlySpent, x -> x.go(2), SPENT, 0);
        Due.refused("9999 and 400", EdgeTests::nearlySpent, x -> x.go(400), SPENT, 0);
        Due.refused("9999 and 401", EdgeTests::nearlySpent, x -> x.go(401), BAD, 0);
        Due.due("10000 and 0", Due.spent().go(0), 0);
        Due.refused("10000 and 1", Due::spent, x -> x.go(1), SPENT, 0);
        Due.says(19, "the WALK going on so: how many were done. BAD; STATE; SPENT.");
        Due.due("9999 and 1", nearlySpent().tocks(1, 0), 1);
        Due.refused("9999 and 2", EdgeTests::nearlySpent, x -> x.tocks(2, 0), SPENT, 0);
        Due.refused("9999 and 60", EdgeTests::nearlySpent, x -> x.tocks(60, 5), SPENT, 0);
        Due.refused("9999 and 61", EdgeTests::nearlySpent, x -> x.tocks(61, 0), BAD, 0);
        Due.refused("9999 and 2, no ROW", EdgeTests::nearlySpent, x -> x.tocks(2, 6), BAD, 0);
        Due.due("10000 and 0", Due.spent().tocks(0, 0), 0);
        // It is n that counts, also of one that does fewer.
        DuckWalk x = nearlySpent();
        x.tilt(0);
        Due.due("it RESTS by its last STEP", x.go(1), 1);
        Due.due("SPENT, though it does none", x.go(1), SPENT);
        DuckWalk y = Due.with("w5r6h4l5", "");
        y.walk(0, 0, 0, 12, 0);
        y.go(400);
        Due.due("it RESTS", Due.toldOf(y, 3), 1);
        for (int n = 0; n < 30; n++) {
            Due.due("STEPS that are not done do not count", y.go(400), 0);
        }
        DuckWalk z = nearlySpent();
        z.walk(0, 0, 20, 12, 0);
        Due.due("a new WALK may go on", z.go(400), 400);
    }

    private static void tolds() {
        Due.says(18, "Of the WALK: 0 its PACE, 1 its next FOOT, 2 STEPS done, 3 0 it goes, 1 it RESTS, 2 it FELL, 4 SLOPE");
        // 10 + 10 - 6 - 1 = 13, 13 + 10 - 10 - 1 = 12: DAMP 16; 6 and 10 are lost, 5 and 1 twice went
        DuckWalk w = Due.with("w5r6h4l5", "");
        w.walk(0, 0, 20, 10, 1);
        w.go(2);
        int[] all = {12, 1, 2, 0, 20, 16, 12};
        for (int what = 0; what <= 6; what++) {
            Due.tells(w, "told(" + what + ")", w.told(what), 1, all[what]);
        }
        for (int v : new int[] {-1, 7, LOW, TOP}) {
            Due.refused("told(" + v + ")", Due::full, y -> y.told(v), BAD, 0);
            Due.refused("told(" + v + ") of none", DuckWalk::new, y -> y.told(v), BAD, 0);
        }
        Due.says(18, "6 all that it went (LEGS and a tenth of the PACE behind each STEP, cut, together)");
        // Without RUB, from PACE 0, by LEGS 5 and SLOPE 2 s, PACE s is behind the first STEP.
        DuckWalk x = Due.with("w9l5", "u0");
        int[] paces = {2, 3, 9, 10, 19, 20, 49};
        int[] went = {5, 5, 5, 6, 6, 7, 9};
        for (int n = 0; n < paces.length; n++) {
            x.walk(0, 0, 2 * paces[n], 0, 0);
            x.go(1);
            Due.due("by PACE " + paces[n], Due.toldOf(x, 6), went[n]);
        }
        DuckWalk y = Due.with("w1l9", "u0");
        y.walk(0, 0, 99, 0, 0);
        y.go(1);
        Due.due("it FELL", Due.toldOf(y, 3), 2);
        Due.due("9 and a tenth of 89", Due.toldOf(y, 6), 17);
        Due.says(18, "5 all that was lost in knocks (p times p by DAMP)");
        // DAMP 16: 12 * 12 by 16 is 9; 3 * 3 by 16 is 0, cut each by each
        DuckWalk z = Due.with("w5r6h4l5", Due.many("b1:3", 3));
        z.walk(0, 0, 20, 12, 0);
        z.go(2);
        Due.due("two knocks of 9", Due.toldOf(z, 5), 18);
        Due.due("PACE 3", Due.toldOf(z, 0), 3);
        z.go(1);
        Due.due("and one of 0", Due.toldOf(z, 5), 18);
        z.walk(0, 0, 20, 3, 0);
        z.go(1);
        Due.due("none", Due.toldOf(z, 5), 0);
        z.walk(0, 0, 20, 4, 0);
        z.go(1);
        Due.due("4 * 4 by 16", Due.toldOf(z, 5), 1);
    }

    private static void tocks() {
        Due.says(19, "PACES behind the next n (0 .. 60) STEPS (0 for those that are not done) come to a ROW (anew)");
        DuckWalk x = Due.with("w5r6h4l5", "b62:9b63:9b63:9");
        x.walk(0, 0, 20, 10, 0);
        Due.rowBy(x, 5, 1, 2, 3);
        Due.due("tocks(0, 5)", x.tocks(0, 5), 0);
        isRow(x, "none", 5);
        Due.due("a ROW of none is there", x.count(5), 1);
        Due.due("no STEP done", Due.toldOf(x, 2), 0);
        Due.due("tocks(60, 0)", x.tocks(60, 0), 60);
        Due.due("the first", Due.place(x, 0, 0), 13);
        Due.due("the last", Due.place(x, 0, 59), 12);
        Due.finds(x, "no more", x.at(0, 60), BEYOND);
        // STEP 62 to 3; STEP 63: 3 + 10 - 0 - 1 - 18 is below 3
        Due.due("tocks(6, 0)", x.tocks(6, 0), 4);
        isRow(x, "those that are not done", 0, 12, 12, 3, 0, 0, 0);
        Due.due("the WALK went on so", Due.toldOf(x, 2), 64);
        Due.due("tocks(1, 0)", x.tocks(1, 0), 0);
        isRow(x, "none done", 0, 0);
        for (int v : new int[] {-1, 61, LOW, TOP}) {
            Due.refused("tocks(" + v + ", 0)", Due::full, y -> y.tocks(v, 0), BAD, 0);
        }
        for (int v : new int[] {-1, 6, LOW, TOP}) {
            Due.refused("tocks(1, " + v + ")", Due::full, y -> y.tocks(1, v), BAD, 0);
        }
        DuckWalk y = Due.with("w1l9", "u0");
        y.walk(0, 0, 99, 0, 0);
        Due.due("by a fall", y.tocks(2, 0), 1);
        isRow(y, "the PACE behind it", 0, 89, 0);
    }

    private static void tilts() {
        Due.says(20, "The SLOPE of the WALK is s: what it was. BAD; STATE.");
        DuckWalk x = Due.with("w9l5", "u0");
        x.walk(0, 0, 20, 0, 0);
        Due.due("tilt(0)", x.tilt(0), 20);
        Due.due("tilt(99)", x.tilt(99), 0);
        Due.due("told(4)", Due.toldOf(x, 4), 99);
        x.go(1);
        Due.due("GAIN by it", Due.toldOf(x, 0), 49);
        x.tilt(0);
        x.go(400);
        Due.due("it RESTS", Due.toldOf(x, 3), 1);
        Due.due("of one that RESTS, too", x.tilt(7), 0);
        Due.due("told(4)", Due.toldOf(x, 4), 7);
        for (int v : new int[] {-1, 100, LOW, TOP}) {
            Due.refused("tilt(" + v + ")", Due::full, y -> y.tilt(v), BAD, 0);
            Due.refused("tilt(" + v + ") of none", DuckWalk::new, y -> y.tilt(v), BAD, 0);
        }
    }

    private static void keeping() {
        Due.says(21, "The WALK is kept in a place (0 .. 2), as it is: STEPS done. BAD; STATE.");
        DuckWalk x = Due.with("w5r6h4l5i1", "b4:3");
        x.walk(0, 0, 20, 10, 1);
        Due.due("keep(0)", x.keep(0), 0);
        x.go(3);
        Due.due("keep(1)", x.keep(1), 3);
        x.tilt(40);
        Due.due("keep(2)", x.keep(2), 3);
        Due.due("all places are full", x.count(4), 3);
        for (int v : new int[] {-1, 3, LOW, TOP}) {
            Due.refused("keep(" + v + ")", Due::full, y -> y.keep(v), BAD, 0);
            Due.refused("keep(" + v + ") of none", DuckWalk::new, y -> y.keep(v), BAD, 0);
            Due.refused("on(" + v + ")", Due::full, y -> y.on(v), BAD, 0);
        }
        Due.says(22, "The WALK is as it was kept in a place: STEPS done. BAD; NOTHING.");
        x.walk(0, 0, 0, 0, 0);
        x.go(1);
        Due.due("on(0)", x.on(0), 0);
        int[] first = {10, 1, 0, 0, 20, 0, 0};
        for (int what = 0; what <= 6; what++) {
            Due.tells(x, "told(" + what + ")", x.told(what), 1, first[what]);
        }
        Due.due("on(2)", x.on(2), 3);
        Due.due("its SLOPE", Due.toldOf(x, 4), 40);
        Due.due("on(1)", x.on(1), 3);
        Due.due("its SLOPE", Due.toldOf(x, 4), 20);
        x.tocks(3, 0);
        int next = Due.place(x, 0, 1);
        Due.walkerBy(x, 0, "w1");
        Due.boardBy(x, 0, "u9");
        x.on(1);
        x.tocks(3, 0);
        Due.due("BUMPS and all as they were when it was begun", Due.place(x, 0, 1), next);
        Due.due("kept anew in a full place", x.keep(1), 6);
        Due.due("on(1)", x.on(1), 6);
        Due.due("the other ones stay", x.on(0), 0);
        Due.due("count(4)", x.count(4), 3);
        Due.refused("none is kept there", Due::lastMissing, y -> y.on(2), Due.FINDING, NOTHING);
        Due.refused("none is kept at all", DuckWalk::new, y -> y.on(0), Due.FINDING, NOTHING);
        keptByItsOwn();
        DuckWalk z = Due.with("w5r6h4l5", "");
        z.walk(0, 0, 0, 0, 0);
        z.go(1);
        z.keep(0);
        z.walk(0, 0, 20, 10, 0);
        z.on(0);
        Due.due("one that RESTS is kept so", Due.toldOf(z, 3), 1);
        Due.due("and does no STEP more", z.go(9), 0);
    }

    /** The kept one, gone on from behind a WALK by another WALKER and another BOARD. */
    private static void keptByItsOwn() {
        // DAMP 16, GAIN 10: 12 + 10 - 9 - 1 = 12, and 12 + 12 - 9 - 1 = 14 by LEFT; BUMPS take 4 at STEP 2
        DuckWalk x = Due.with("w5r6h4l5i2", "b2:4");
        Due.walkerBy(x, 1, "w9r9h1l9j7");
        Due.boardBy(x, 1, "u0b1:9");
        x.walk(0, 0, 20, 12, 1);
        x.go(1);
        x.keep(1);
        int[] kept = {12, 0, 1, 0, 20, 9, 6};
        x.walk(1, 1, 9, 20, 0);
        x.go(2);
        x.keep(0);
        Due.due("on(1)", x.on(1), 1);
        for (int what = 0; what <= 6; what++) {
            Due.tells(x, "told(" + what + ")", x.told(what), 1, kept[what]);
        }
        // 12 + 12 - 9 - 1 = 14, 14 + 10 - 12 - 1 - 4 = 7
        x.tocks(2, 0);
        isRow(x, "by its own WALKER and BOARD", 0, 14, 7);
        Due.due("by its own WAX", x.turns(), 354);
        Due.due("the other one", x.on(0), 2);
        Due.due("by its own WAX", x.turns(), 14);
    }

    private static void turning() {
        Due.says(23, "Its heading after all STEPS done: for each of them RIGHT less LEFT (of its WAX), all together, modulo 360 (0 .. 359); after how many STEPS it first heads as at first again (NONE: RIGHT and LEFT are alike) by asked(). STATE.");
        int[] again = {NONE, 360, 180, 120, 90, 72, 60, 360, 45, 40};
        for (int turn = -9; turn <= 9; turn++) {
            String feet = turn < 0 ? "i" + -turn : "j" + turn;
            DuckWalk x = Due.with("w9r9h1l5" + feet, "u1");
            x.walk(0, 0, 15, 10, 0);
            Due.tells(x, "at first by " + turn, x.turns(), 0, again[Math.abs(turn)]);
            x.go(1);
            Due.tells(x, "behind one STEP by " + turn, x.turns(), (turn + 360) % 360, again[Math.abs(turn)]);
            int steps = again[Math.abs(turn)];
            if (turn != 0) {
                Due.due("it goes on", x.go(steps - 2), steps - 2);
                Due.tells(x, "a STEP ahead of that", x.turns(), (360 - turn) % 360, steps);
                x.go(1);
                Due.tells(x, "as at first", x.turns(), 0, steps);
                x.go(1);
                Due.tells(x, "and on", x.turns(), (turn + 360) % 360, steps);
            }
        }
        DuckWalk y = Due.with("w9r9h1l5i9j9", "u1");
        y.walk(0, 0, 5, 10, 0);
        y.go(7);
        Due.tells(y, "both alike, not 0", y.turns(), 0, NONE);
        y.wax(0, 0, 0);
        Due.tells(y, "of its own WAX", y.turns(), 0, NONE);
        DuckWalk z = Due.with("w9r9h1l5i7", "u1");
        z.walk(0, 0, 15, 10, 0);
        for (int n = 0; n < 25; n++) {
            z.go(400);
        }
        Due.due("10000 STEPS", Due.toldOf(z, 2), 10000);
        // -70000 is 200 above 195 times -360
        Due.tells(z, "by -7 each", z.turns(), 200, 360);
    }

    // ======== goings

    private static void kinds() {
        Due.says(0, "6 RUNNING (an EVEN: of a PACE above half of what it falls at, cut)");
        for (int wide = 1; wide <= 9; wide++) {
            // DAMP 25, no RUB, LEGS 9: it stays at PACE p where GAIN is p times p by 25.
            DuckWalk x = Due.with("w" + wide + "r9h1l9", "u0");
            int half = 10 + 4 * wide;
            for (int pace = half - 1; pace <= half + 1; pace++) {
                int slope = (pace * pace / 25 * 10 + 8) / 9;
                int kind = pace > half ? 6 : 1;
                Due.tells(x, "PACE " + pace + " of WIDE " + wide, x.going(0, 0, slope, pace), kind, 2);
                Due.due("its PACE", x.mark(0, 0, slope, pace, 1), pace);
                Due.due("RUNNING", x.mark(0, 0, slope, pace, 6), kind == 6 ? half * 2 - pace : Due.FINDING);
            }
        }
        Due.says(24, "A GOING of a WALKER on a BOARD, a SLOPE, from a PACE (0 .. 99): its KIND; ROUND TRIP by asked() (0: none). BAD; NOTHING.");
        DuckWalk x = Due.with("w5r6h4l5", "b0:9b1:9");
        // on the flat: 4 - 1 - 1 = 2; 5 - 1 - 1 = 3
        Due.tells(x, "it RESTS by one STEP", x.going(0, 0, 0, 4), 4, 0);
        Due.tells(x, "it RESTS by two", x.going(0, 0, 0, 5), 4, 0);
        Due.tells(x, "from PACE 0", x.going(0, 0, 20, 0), 1, 2);
        Due.tells(x, "from PACE 99", x.going(0, 0, 99, 99), 4, 0);
        Due.says(0, "2 LIMPING (a GOING: unlike, a ROUND TRIP of 4 STEPS or fewer)");
        Due.tells(x, "of 2", x.going(0, 0, 30, 10), 2, 2);
        Due.says(0, "7 FOURS (a LIMPING: a ROUND TRIP of 4).");
        Due.tells(x, "of 4", x.going(0, 0, 50, 10), 7, 4);
        Due.says(0, "FOOT 0 first, without BUMPS (RUB as ever)");
        Due.tells(x, "no BUMPS", x.going(0, 0, 20, 3), 1, 2);
        Due.boardBy(x, 1, "u9");
        Due.tells(x, "RUB 9", x.going(0, 1, 0, 20), 4, 0);
        // LEFT alone: 0 + 9 - 0 - 1 = 8, 8 - 4 - 1 = 3, 3 + 9 - 0 - 1 = 11, 11 - 7 - 1 = 3; RIGHT alone: 0 - 1
        Due.walkerBy(x, 1, "w5r6h4l5i9");
        Due.walkerBy(x, 2, "w5r6h4l5j9");
        Due.tells(x, "LEFT first", x.going(1, 0, 0, 0), 2, 2);
        Due.tells(x, "RIGHT first would not do", x.going(2, 0, 0, 0), 4, 0);
    }

    private static void marks() {
        Due.says(25, "BAD: also KIND 0; NOTHING; UNLIKE.");
        for (int v : new int[] {-1, 0, 8, LOW, TOP}) {
            Due.refused("KIND " + v, Due::full, y -> y.mark(0, 0, 20, 10, v), BAD, 0);
            Due.refused("KIND " + v + ", missing", Due::lastMissing, y -> y.mark(3, 0, 20, 10, v), BAD, 0);
        }
        Due.says(0, "3 UNLIKE (a GOING of another KIND; a number that is none)");
        // WALKERS, SLOPES, PACES of each KIND, and all KINDS that such a GOING IS of.
        String[] walkers = {"w5r6h4l5", "w5r6h4l5", "w5r6h4l5", "w1r9h1l5", "w1r9h1l5", "w5r6h4l5"};
        int[] slopes = {20, 30, 0, 99, 20, 50};
        int[] paces = {10, 10, 5, 3, 15, 10};
        int[][] marks = {{1, 12}, {2, 4}, {4, 2}, {5, 1}, {1, 15, 6, 13}, {2, 25, 7, 3}};
        for (int n = 0; n < walkers.length; n++) {
            int at = n;
            Due.Scene scene = () -> {
                DuckWalk x = Due.full();
                Due.walkerBy(x, 0, walkers[at]);
                Due.boardBy(x, 0, "b0:9b2:9");
                return x;
            };
            for (int kind = 1; kind <= 7; kind++) {
                int k = kind;
                Due.Call call = x -> x.mark(0, 0, slopes[at], paces[at], k);
                int told = markOf(marks[n], kind);
                // mark() tells nothing by asked(), so what it answers changes nothing either.
                Due.refused(walkers[n] + " as KIND " + kind, scene, call, told, told == Due.FINDING ? UNLIKE : 0);
            }
        }
        Due.says(25, "a STOPPING, a FALLING one after how many STEPS,");
        DuckWalk x = Due.with("w1r6h1l3j3", "u0");
        Due.due("it FALLS after 14", x.mark(0, 0, 75, 8, 5), 14);
        x.walk(0, 0, 75, 8, 0);
        Due.due("as its WALK does", x.go(400), 14);
        Due.due("it FELL", Due.toldOf(x, 3), 2);
        DuckWalk y = Due.with("w5r9h1l3i9j3", "u0");
        Due.due("it RESTS after 18", y.mark(0, 0, 99, 40, 4), 18);
        y.walk(0, 0, 99, 40, 0);
        Due.due("as its WALK does", y.go(400), 18);
    }

    private static int markOf(int[] marks, int kind) {
        for (int n = 0; n < marks.length; n += 2) {
            if (marks[n] == kind) {
                return marks[n + 1];
            }
        }
        return Due.FINDING;
    }

    private static void lines() {
        Due.says(26, "On how many SLOPES a GOING from a PACE IS of a KIND (0 .. 7); the first by asked() (NONE). BAD; NOTHING.");
        DuckWalk x = Due.with("w5r6h4l5", "b0:9");
        Due.tells(x, "each one is a GOING", x.lines(0, 0, 10, 0), 100, 0);
        Due.tells(x, "from PACE 0, too", x.lines(0, 0, 0, 0), 100, 0);
        Due.tells(x, "from PACE 99, too", x.lines(0, 0, 99, 4), 100, 0);
        Due.tells(x, "none", x.lines(0, 0, 99, 1), 0, NONE);
        Due.tells(x, "no MUDDLED ones", x.lines(0, 0, 10, 3), 0, NONE);
        Due.tells(x, "two FOURS", x.lines(0, 0, 10, 7), 2, 50);
        // DAMP 9, RUB 5, WAX 3: 28 stays 28 by a GAIN of 89 and 3, which SLOPE 99 alone has.
        DuckWalk y = Due.with("w6r1h1l9i3j3", "u5");
        Due.tells(y, "SLOPE 99 alone", y.lines(0, 0, 28, 1), 1, 99);
        // DAMP 25, no RUB: 3 stays 3 on SLOPE 0.
        DuckWalk z = Due.with("w5r9h1l1", "u0");
        Due.tells(z, "from SLOPE 0 on", z.lines(0, 0, 3, 1), 90, 0);
        for (int v : new int[] {-1, 8, LOW, TOP}) {
            Due.refused("KIND " + v, Due::full, w -> w.lines(0, 0, 10, v), BAD, 0);
        }
        for (int kind = 0; kind <= 7; kind++) {
            int lines = 0;
            int first = NONE;
            DuckWalk w = Due.with("w1r9h1l5", "");
            for (int slope = 99; slope >= 0; slope--) {
                int is = w.going(0, 0, slope, 15);
                if (kind == 0 || is == kind || is == 6 && kind == 1 || is == 7 && kind == 2) {
                    lines++;
                    first = slope;
                }
            }
            Due.tells(w, "KIND " + kind, w.lines(0, 0, 15, kind), lines, first);
        }
    }

    private static void begins() {
        Due.says(27, "From how many PACES (0 .. 99) it WALKS well on a SLOPE; the first by asked() (NONE). BAD; NOTHING.");
        // DAMP 25, no RUB, on the flat: 3 stays 3, 22 - 19 = 3; 23 - 21 is below 3, and so is 2.
        DuckWalk x = Due.with("w5r9h1l1", "u0");
        Due.tells(x, "3 to 22", x.begins(0, 0, 0), 20, 3);
        Due.tells(x, "22", x.going(0, 0, 0, 22), 1, 2);
        Due.tells(x, "23", x.going(0, 0, 0, 23), 4, 0);
        Due.tells(x, "2", x.going(0, 0, 0, 2), 4, 0);
        DuckWalk y = Due.with("w5r9h1l9", "u0");
        // 47 * 47 by 25 is 88, as GAIN by SLOPE 98
        Due.tells(y, "47 alone", y.begins(0, 0, 98), 1, 47);
        DuckWalk z = Due.with("w5r6h4l5", "b0:9");
        Due.tells(z, "none on the flat", z.begins(0, 0, 0), 0, NONE);
        Due.tells(z, "from 0 on", z.begins(0, 0, 20), 22, 0);
        int begins = 0;
        for (int pace = 0; pace <= 99; pace++) {
            int kind = z.going(0, 0, 20, pace);
            begins += kind == 1 || kind == 6 ? 1 : 0;
        }
        Due.due("each by each", begins, 22);
        for (int v : new int[] {-1, 100, LOW, TOP}) {
            Due.refused("SLOPE " + v, Due::full, w -> w.begins(0, 0, v), BAD, 0);
        }
    }

    private static void mends() {
        Due.says(28, "It WALKS well on a SLOPE from a PACE: after how many STEPS (FOOT 0 first) from d (1 .. 20) more than its EVEN PACE it first has that again. NONE: not within 400. BAD; NOTHING; UNLIKE: it does not WALK well.");
        DuckWalk x = Due.with("w5r6h4l5", "b0:9");
        Due.due("d 1", x.mends(0, 0, 20, 10, 1), 1);
        // Out of 12 and 20: 32 + 10 - 64 - 1 is below 3.
        Due.Scene even = () -> {
            DuckWalk y = Due.full();
            Due.walkerBy(y, 0, "w5r6h4l5");
            Due.boardBy(y, 0, "b0:9");
            Due.boardBy(y, 3, "u0");
            Due.walkerBy(y, 3, "w5r9h1l1");
            Due.walkerBy(y, 2, "w1r1h1l5");
            return y;
        };
        Due.none("d 20: it RESTS", even, y -> y.mends(0, 0, 20, 10, 20));
        // DAMP 25 on the flat without RUB: 3 stays 3, but 4 stays 4.
        Due.none("d 1: it stays apart", even, y -> y.mends(3, 3, 0, 3, 1));
        // 22 - 19 = 3; 23 - 21 is below 3
        Due.due("d 19: at once", even.make().mends(3, 3, 0, 3, 19), 1);
        Due.none("d 20: it RESTS", even, y -> y.mends(3, 3, 0, 3, 20));
        // DAMP 9, GAIN 28, no RUB: 16 stays 16; 19 + 28 - 40 = 7, 7 + 28 - 5 = 30 is above 28.
        Due.none("d 3: it FALLS", even, y -> y.mends(2, 3, 56, 16, 3));
        for (int v : new int[] {-1, 0, 21, LOW, TOP}) {
            Due.refused("d " + v, even, y -> y.mends(0, 0, 20, 10, v), BAD, 0);
            Due.refused("d " + v + ", LIMPING", even, y -> y.mends(0, 0, 30, 10, v), BAD, 0);
            Due.refused("d " + v + ", missing", Due::lastMissing, y -> y.mends(3, 0, 20, 10, v), BAD, 0);
        }
        Due.refused("LIMPING", even, y -> y.mends(0, 0, 30, 10, 1), Due.FINDING, UNLIKE);
        Due.refused("FOURS", even, y -> y.mends(0, 0, 50, 10, 1), Due.FINDING, UNLIKE);
        Due.refused("STOPPING", even, y -> y.mends(0, 0, 0, 10, 20), Due.FINDING, UNLIKE);
        Due.refused("FALLING", even, y -> y.mends(2, 3, 99, 3, 1), Due.FINDING, UNLIKE);
        DuckWalk z = Due.with("w1r9h1l5", "");
        Due.due("a RUNNING one is EVEN", z.mends(0, 0, 20, 15, 5), 3);
    }

    private static void wide() {
        Due.says(29, "The FORM of the widest SPAN from a PACE (of alike ones the first), as 10 times ROUND and HIGH; that SPAN by asked(). BAD; NOTHING.");
        // By unlike WAX none is ever EVEN.
        DuckWalk x = Due.with("w7r3h5l5j2", "u2");
        Due.tells(x, "all alike, 0", x.wide(0, 0, 8), 11, 0);
        String[] walkers = {"w5r6h4l5", "w5r1h8l1i8j8", "w2r2h7l1i5j5", "w4r2h4l1i5j5"};
        String[] boards = {"b0:9", "u8", "u9", "u6"};
        int[] paces = {10, 10, 8, 4};
        for (int n = 0; n < walkers.length; n++) {
            int form = 0;
            int widest = -1;
            for (int round = 1; round <= 9; round++) {
                DuckWalk y = new DuckWalk();
                Due.boardBy(y, 0, boards[n]);
                for (int high = 1; high <= 9; high++) {
                    Due.walkerBy(y, 0, walkers[n] + "r" + round + "h" + high);
                    int span = y.lines(0, 0, paces[n], 1);
                    if (span > widest) {
                        widest = span;
                        form = 10 * round + high;
                    }
                }
            }
            DuckWalk z = Due.with(walkers[n], boards[n]);
            Due.tells(z, "wide of " + walkers[n], z.wide(0, 0, paces[n]), form, widest);
            if (n == 1) {
                Due.due("all SLOPES", widest, 100);
            }
        }
        Due.tells(x, "from PACE 99", x.wide(0, 0, 99), 11, 0);
    }

    private static void mend() {
        Due.says(30, "The least WAX (LEFT and RIGHT together; of alike ones the least LEFT), as 10 times LEFT and RIGHT, by which, anew beneath both FEET, it WALKS well on a SLOPE from a PACE; the PACE then by asked(). NONE: by none. BAD; NOTHING.");
        DuckWalk x = Due.with("w5r6h4l5i3", "b0:9");
        Due.tells(x, "by no WAX", x.mend(0, 0, 20, 10), 0, 12);
        // on the flat, DAMP 16, from 3: 3 + 9 - 0 - 9 = 3 by RUB 9
        Due.boardBy(x, 1, "u9");
        Due.tells(x, "by all", x.mend(0, 1, 0, 3), 99, 3);
        Due.boardBy(x, 2, "u8");
        Due.tells(x, "by nearly all", x.mend(0, 2, 0, 3), 88, 3);
        // 3 + 9 - 9 by DAMP 1 less 9 is below 3, and 5 more GAIN would be the least
        Due.Scene none = () -> {
            DuckWalk y = Due.full();
            Due.walkerBy(y, 0, "w5r1h9l5");
            Due.boardBy(y, 0, "u9");
            return y;
        };
        Due.none("by none", none, y -> y.mend(0, 0, 0, 3));
        Due.due("by 5 more GAIN it would", none.make().mend(0, 0, 18, 3), 99);
        Due.due("by 5 more GAIN it would", none.make().mend(0, 0, 16, 3), NONE);
        isWalker(x, "its own WAX stays", 0, 5, 6, 4, 5, 3, 0, 0);
    }

    private static void limp() {
        Due.says(31, "The SLOPE and LEAD of the least OFF for TOCKS in a ROW (of alike ones by SLOPES, then LEADS), as 10 times the SLOPE and the LEAD; OFF by asked().");
        DuckWalk x = Due.with("w9r6h4l9", "u9b0:9");
        Due.rowBy(x, 0, 0, 0);
        Due.tells(x, "SLOPE 0, LEAD 0", x.limp(0, 0, 0), 0, 0);
        // 0 + 89 + 9 - 9: only by SLOPE 99 and LEAD 9
        Due.rowBy(x, 0, 0, 89);
        Due.tells(x, "SLOPE 99, LEAD 9", x.limp(0, 0, 0), 999, 0);
        Due.due("one pair", x.odds(0, 0, 0), 1);
        Due.rowBy(x, 0, 0, 99);
        Due.tells(x, "none nearer than 89", x.limp(0, 0, 0), 999, 10);
        // 0 + 12 - 9 = 3: LEAD 9 by SLOPE 4 (GAIN 3) is the first
        Due.rowBy(x, 0, 0, 3);
        Due.tells(x, "by SLOPES, then LEADS", x.limp(0, 0, 0), 49, 0);
        Due.says(31, "SIZE: fewer than 2; UNLIKE: not 0 .. 99.");
        for (int n : new int[] {0, 1}) {
            Due.refused("of " + n, () -> tocksOf(n, 0, 10), y -> y.limp(0, 0, 1), Due.FINDING, SIZE);
            Due.refused("odds of " + n, () -> tocksOf(n, 0, 10), y -> y.odds(0, 0, 1), Due.FINDING, SIZE);
        }
        Due.holds("of 2", tocksOf(2, 0, 10).limp(0, 0, 1) >= 0);
        Due.holds("odds of 2", tocksOf(2, 0, 10).odds(0, 0, 1) > 0);
        for (int n : new int[] {2, 3, 60}) {
            for (int at : new int[] {0, n / 2, n - 1}) {
                for (int v : new int[] {-1, 100, LOW, TOP}) {
                    String what = v + " at place " + at + " of " + n;
                    Due.refused(what, () -> tocksOf(n, at, v), y -> y.limp(0, 0, 1), Due.FINDING, UNLIKE);
                    Due.refused("odds, " + what, () -> tocksOf(n, at, v), y -> y.odds(0, 0, 1), Due.FINDING, UNLIKE);
                }
                for (int v : new int[] {0, 99}) {
                    String what = v + " at place " + at + " of " + n;
                    Due.holds(what, tocksOf(n, at, v).limp(0, 0, 1) >= 0);
                    Due.holds("odds, " + what, tocksOf(n, at, v).odds(0, 0, 1) > 0);
                }
            }
        }
        Due.says(0, "(0 for the STEP by which it RESTS or FALLS and all behind; RUB, no BUMPS)");
        DuckWalk y = Due.with("w1r9h1l9", "b0:9b1:9");
        // WIDE 1 FALLS above 28: 0 + 20 + 9 - 1 = 28 is the nearest to 99 that it has; 71 off
        Due.rowBy(y, 0, 0, 99);
        Due.tells(y, "a fall is 0", y.limp(0, 0, 0), 239, 71);
        // on the flat 3 - 0 - 1 is below 3: it RESTS by its first STEP
        Due.rowBy(y, 0, 3, 0, 0, 0, 0);
        Due.tells(y, "all behind are 0", y.limp(0, 0, 0), 0, 0);
        Due.says(0, "(0 .. 9: WAX beneath LEFT; none beneath RIGHT)");
        // DAMP 16, RUB 1 by GAIN 10 and LEAD 3: 12 + 13 - 9 - 1 = 15, 15 + 10 - 14 - 1 = 10, 16, 9
        DuckWalk v = Due.with("w5r6h4l5i9j9", "");
        Due.rowBy(v, 0, 12, 15, 10, 16, 9);
        Due.tells(v, "its own WAX is none", v.limp(0, 0, 0), 203, 0);
        isWalker(v, "but stays", 0, 5, 6, 4, 5, 9, 9, 0);
        // 12 + 10 - 9 - 1 by LEGS 5: 60 TOCKS of 12, the last one by 1 off
        DuckWalk z = Due.with("w5r6h4l5", "");
        z.row(0, 60);
        for (int i = 0; i < 59; i++) {
            z.lay(0, i, 12);
        }
        z.lay(0, 59, 13);
        Due.tells(z, "the last of 60 counts", z.limp(0, 0, 0), 200, 1);
    }

    /** ROW 1 has n TOCKS of 12, but for one. */
    private static DuckWalk tocksOf(int n, int at, int v) {
        DuckWalk x = Due.full();
        x.row(1, n);
        for (int i = 0; i < n; i++) {
            x.lay(1, i, i == at ? v : 12);
        }
        return x;
    }

    private static void odds() {
        Due.says(32, "The part of pairs (SLOPE and LEAD) of the least OFF that have a LEAD above 0, told by upper(), lower(): how many pairs.");
        DuckWalk x = Due.with("w9r6h4l9", "u9");
        Due.rowBy(x, 0, 0, 89);
        Due.due("one pair", x.odds(0, 0, 0), 1);
        Due.fraction(x, "LEAD 9", 1, 1);
        // It RESTS by each pair whose GAIN is below 12: RUB is 9. WIDE 9 FALLS above 92: by none of them.
        Due.rowBy(x, 0, 0, 0);
        int pairs = 0;
        int leading = 0;
        for (int slope = 0; slope <= 99; slope++) {
            for (int lead = 0; lead <= 9; lead++) {
                int pace = slope * 9 / 10 + lead - 9;
                boolean is = pace < 3;
                pairs += is ? 1 : 0;
                leading += is && lead > 0 ? 1 : 0;
            }
        }
        Due.due("all that REST", x.odds(0, 0, 0), pairs);
        Due.holds("in lowest terms", x.upper() * pairs == x.lower() * leading && gcd(x.upper(), x.lower()) == 1);
        Due.boardBy(x, 1, "u1");
        Due.walkerBy(x, 1, "w5r6h4l5");
        Due.rowBy(x, 0, 12, 12, 12);
        Due.due("none has a LEAD", x.odds(1, 1, 0), 2);
        Due.fraction(x, "0 by 1", 0, 1);
    }

    private static long gcd(long a, long b) {
        return b == 0 ? a : gcd(b, a % b);
    }

    // ======== parts, makers, yards, jolts

    private static void parts() {
        Due.says(33, "100, and by how much its SPAN from a PACE is less with a part (0 WIDE, 1 ROUND, 2 HIGH, 3 LEGS) of 1 than as it is (more: so much less than 100); that SPAN by asked(). BAD; NOTHING.");
        DuckWalk x = Due.with("w1r1h1l1i4j4", "u4");
        int span = x.lines(0, 0, 3, 1);
        Due.holds("it walks on some", span > 0);
        for (int which = 0; which <= 3; which++) {
            Due.tells(x, "part " + which + " is 1 as it is", x.part(0, 0, 3, which), 100, span);
        }
        DuckWalk y = Due.with("w5r6h4l5", "b0:9");
        Due.tells(y, "more", y.part(0, 0, 10, 2), 98, 22);
        DuckWalk z = Due.with("w7r3h5l5", "u2");
        String[] less = {"w1", "r1", "h1", "l1"};
        int whole = z.lines(0, 0, 8, 1);
        for (int which = 0; which <= 3; which++) {
            Due.walkerBy(z, 1, "w7r3h5l5" + less[which]);
            int then = z.lines(1, 0, 8, 1);
            Due.tells(z, "part " + which, z.part(0, 0, 8, which), 100 + whole - then, then);
        }
        for (int v : new int[] {-1, 4, LOW, TOP}) {
            Due.refused("part " + v, Due::full, w -> w.part(0, 0, 10, v), BAD, 0);
            Due.refused("part " + v + ", missing", Due::lastMissing, w -> w.part(3, 0, 10, v), BAD, 0);
        }
    }

    private static void made() {
        Due.says(0, "(27 of them; those that are not 1 .. 9 do not count).");
        DuckWalk x = new DuckWalk();
        Due.boardBy(x, 0, "u1");
        String[] walkers = {"w5r5h5", "w2r2h2", "w8r8h8", "w1", "w9", "r1", "r9", "h1", "h9", "w1r1", "w9h9", "r1h9",
            "w1r1h1", "w9r9h9", "w1r9h1"};
        int[] all = {27, 27, 27, 18, 18, 18, 18, 18, 18, 12, 12, 12, 8, 8, 8};
        for (int n = 0; n < walkers.length; n++) {
            Due.walkerBy(x, 0, walkers[n]);
            Due.due("made of " + walkers[n], x.made(0, 0, 0, 0), all[n]);
            Due.fraction(x, "none WALKS well on the flat", 0, 1);
        }
        Due.says(34, "The part of all WANDER that WALKS well on a SLOPE from a PACE, told by upper(), lower(): how many of them there are. BAD; NOTHING.");
        // On the flat without RUB 3 stays 3 wherever DAMP is above 9: by all of them here.
        DuckWalk y = Due.with("w5r5h5", "u0");
        Due.due("all", y.made(0, 0, 0, 3), 27);
        Due.fraction(y, "all", 1, 1);
        // DAMP of ROUND 2 .. 4, HIGH 4 .. 6 is 6 to 12: 10 by (3, 4), 11 by (4, 5), 12 by (4, 4), 10 by (4, 6): 4 of 9
        Due.walkerBy(y, 0, "w5r3h5");
        Due.due("a part", y.made(0, 0, 0, 3), 27);
        Due.fraction(y, "12 of 27", 4, 9);
        Due.walkerBy(y, 0, "w1r3h5");
        Due.due("at an edge", y.made(0, 0, 0, 3), 18);
        Due.fraction(y, "8 of 18", 4, 9);
        isWalker(y, "it stays", 0, 1, 3, 5, 5, 0, 0, 0);
        // DAMP 25, GAIN 36: 30 stays 30, but WIDE 1 FALLS above 28; by the other three FORMS none is EVEN.
        Due.walkerBy(y, 0, "w2r9h1l9");
        Due.due("WIDE wanders, too", y.made(0, 0, 40, 30), 12);
        Due.fraction(y, "2 of 12", 1, 6);
        Due.walkerBy(y, 0, "w3r9h1l9");
        Due.due("WIDE wanders, too", y.made(0, 0, 40, 30), 12);
        Due.fraction(y, "3 of 12", 1, 4);
        Due.walkerBy(y, 0, "w?r?h5");
        Due.due("a DRAWING's are 5", y.made(0, 0, 0, 3), 27);
        Due.fraction(y, "all", 1, 1);
    }

    private static void would() {
        Due.says(35, "In how many of all ways to tell what is not told of it (1 .. 9 each; as it is, if all is told)");
        DuckWalk x = Due.with("w5r6h4l5", "u1");
        Due.tells(x, "as it is, well", x.would(0, 0, 20, 10), 1, 5645);
        Due.tells(x, "as it is, not well", x.would(0, 0, 0, 10), 0, NONE);
        Due.says(35, "a WALKER WALKS well on a SLOPE from a PACE; the first such way by asked() (WIDE, ROUND, HIGH, LEGS as one number of four figures; NONE).");
        // On the flat without RUB 3 stays 3 where DAMP is above 9: 8 and 2 times ROUND, less HIGH.
        DuckWalk y = Due.with("w?", "u0");
        Due.tells(y, "WIDE", y.would(0, 0, 0, 3), 9, 1555);
        Due.walkerBy(y, 0, "l?");
        Due.tells(y, "LEGS", y.would(0, 0, 0, 3), 9, 5551);
        Due.walkerBy(y, 0, "r?");
        // 8 + 2 r - 5 is above 9 from 4 on
        Due.tells(y, "ROUND", y.would(0, 0, 0, 3), 6, 5455);
        Due.walkerBy(y, 0, "h?r4");
        // 16 - h is above 9 up to 6
        Due.tells(y, "HIGH", y.would(0, 0, 0, 3), 6, 5415);
        Due.walkerBy(y, 0, "r?h?");
        // of ROUND r those HIGH below 2 r - 1: 0, 2, 4, 6, 8, 9, 9, 9, 9
        Due.tells(y, "two", y.would(0, 0, 0, 3), 56, 5215);
        Due.walkerBy(y, 0, "w?r?h?");
        Due.tells(y, "three", y.would(0, 0, 0, 3), 504, 1215);
        Due.walkerBy(y, 0, "r?h?l?");
        Due.tells(y, "the other three", y.would(0, 0, 0, 3), 504, 5211);
        Due.walkerBy(y, 0, "w?h?l?r9");
        Due.tells(y, "all of three", y.would(0, 0, 0, 3), 729, 1911);
        Due.tells(y, "none of three", y.would(0, 0, 0, 2), 0, NONE);
        isWalker(y, "it stays", 0, 5, 9, 5, 5, 0, 0, 13);
        Due.says(35, "SPENT: more than 3 are not told. (In this order.)");
        Due.walkerBy(y, 0, "w?r?h?l?");
        Due.due("four", y.would(0, 0, 0, 3), SPENT);
        Due.walkerBy(y, 0, "w?r?h?l?l1");
        Due.tells(y, "four, but one told behind", y.would(0, 0, 0, 3), 504, 1211);
    }

    private static void yards() {
        Due.says(36, "How many STEPS it takes to go d (1 .. 2000; as told(6)) on a SLOPE from a PACE, without BUMPS; all that was lost in knocks by asked(). NONE: it ends ahead of that, or not within 400 STEPS. BAD; NOTHING.");
        // On the flat without RUB 3 stays 3: by LEGS 5 it goes 5 a STEP, and loses nothing.
        DuckWalk x = Due.with("w5r9h1l5", "u0b0:9");
        Due.tells(x, "1", x.yard(0, 0, 0, 3, 1), 1, 0);
        Due.tells(x, "5", x.yard(0, 0, 0, 3, 5), 1, 0);
        Due.tells(x, "6", x.yard(0, 0, 0, 3, 6), 2, 0);
        Due.tells(x, "1995", x.yard(0, 0, 0, 3, 1995), 399, 0);
        Due.tells(x, "2000 by 400 STEPS", x.yard(0, 0, 0, 3, 2000), 400, 0);
        // 5 * 5 by 25 is lost, then it is at 4: DAMP 25
        Due.tells(x, "one knock", x.yard(0, 0, 0, 5, 2000), 400, 1);
        for (int v : new int[] {-1, 0, 2001, LOW, TOP}) {
            Due.refused("d " + v, Due::full, y -> y.yard(0, 0, 20, 10, v), BAD, 0);
            Due.refused("d " + v + ", missing", Due::lastMissing, y -> y.yard(3, 0, 20, 10, v), BAD, 0);
        }
        // WAX 9 beneath LEFT alone: 0 + 9 - 1 = 8, 8 - 4 - 1 = 3, 11, 3; RIGHT first it would REST at once
        DuckWalk v = Due.with("w5r6h4l5i9", "");
        Due.tells(v, "FOOT 0 first", v.yard(0, 0, 0, 0, 6), 2, 4);
        Due.Scene slow = () -> {
            DuckWalk y = Due.full();
            Due.walkerBy(y, 0, "w5r9h1l4");
            Due.boardBy(y, 0, "u0");
            return y;
        };
        Due.due("4 a STEP", slow.make().yard(0, 0, 0, 3, 1600), 400);
        Due.none("4 a STEP, not within 400", slow, y -> y.yard(0, 0, 0, 3, 1601));
        Due.none("nor 2000", slow, y -> y.yard(0, 0, 0, 3, 2000));
        // 2 is below 3: it RESTS by the first STEP, having gone 4
        Due.due("it ends by that STEP", slow.make().yard(0, 0, 0, 2, 4), 1);
        Due.none("it ends ahead of that", slow, y -> y.yard(0, 0, 0, 2, 5));
        // 0 + 39 FALLS at WIDE 1, having gone 4 and 3
        Due.Scene falls = () -> {
            DuckWalk y = slow.make();
            Due.walkerBy(y, 0, "w1r9h1l4");
            return y;
        };
        Due.due("it FALLS by that STEP", falls.make().yard(0, 0, 99, 0, 7), 1);
        Due.none("it FALLS ahead of that", falls, y -> y.yard(0, 0, 99, 0, 8));
    }

    private static void pushes() {
        Due.says(37, "On the flat (SLOPE 0): the least push v (1 .. 99) that GAIN has more on each STEP, by which it WALKS well from a PACE;");
        // Without RUB 3 stays 3 by no push at all; but 1 is the least push: 3, 4, 5, 5 by DAMP 25.
        DuckWalk x = Due.with("w5r9h1l5", "u0");
        Due.tells(x, "1, though 0 would do", x.push(0, 0, 3), 1, 1);
        // DAMP 8, RUB 9: 27 + 1 + 99 - 91 - 9 = 27
        DuckWalk y = Due.with("w8r2h4l9i1j1", "u9");
        Due.tells(y, "99, and none on FOOT 0", y.push(0, 0, 27), 99, NONE);
        Due.says(37, "NONE: by none (asked() stays). BAD; NOTHING.");
        Due.Scene none = () -> {
            DuckWalk z = Due.full();
            Due.walkerBy(z, 0, "w8r2h4l9");
            Due.boardBy(z, 0, "u9");
            Due.walkerBy(z, 2, "w5r6h4l5i1");
            return z;
        };
        Due.none("100 would be due", none, z -> z.push(0, 0, 27));
        Due.none("never EVEN by unlike WAX", none, z -> z.push(2, 0, 10));
        Due.none("from PACE 99", none, z -> z.push(0, 0, 99));
        Due.says(37, "the least push on FOOT 0 alone by which it does not STOP or FALL by asked() (NONE).");
        // DAMP 16, RUB 1 by 3: 10 + 3 - 6 - 1 = 6, 6 - 2 - 1 = 3, 3 + 3 - 1 = 5, 5 - 1 - 1 = 3; by 2: 5, 3, 4, 2
        DuckWalk z = Due.with("w5r6h4l5", "b0:9");
        Due.tells(z, "LIMPING is going", z.push(0, 0, 10), 1, 3);
        isWalker(z, "its WAX stays", 0, 5, 6, 4, 5, 0, 0, 0);
        // DAMP 25, RUB 1, on FOOT 0 alone by 18: 35 + 18 - 49 - 1 = 3, 2; by 19: 4, 3, 21, 3, 21
        DuckWalk w = Due.with("w9r9h1", "u1");
        Due.tells(w, "19 on FOOT 0", w.push(0, 0, 35), 18, 19);
        // with WAX 1 beneath both by 17: 35 + 18 - 49 - 1 = 3, 3 + 1 - 0 - 1 = 3, 20, 4, 21, 4, 21
        Due.walkerBy(w, 1, "w9r9h1i1j1");
        Due.tells(w, "beside its WAX", w.push(1, 0, 35), 17, 17);
    }

    private static void bears() {
        Due.says(38, "The most d (0 .. 99) that a BUMP at STEP t (0 .. 99; no other ones) may take, so that on a SLOPE from a PACE it has come to neither RESTS nor FALLS after 200 STEPS.");
        // DAMP 16, GAIN 10, RUB 1: 12 stays 12; less 9 it is 3, and then 12 again
        DuckWalk x = Due.with("w5r6h4l5", "b0:9b1:9b99:9");
        for (int t : new int[] {0, 1, 50, 98, 99}) {
            Due.due("at STEP " + t, x.bears(0, 0, 20, 12, t), 9);
        }
        // WAX 9 on LEFT alone, on the flat: 0, 8, 3, 11, 3, 11 .. and each even STEP is on LEFT
        Due.walkerBy(x, 1, "w5r6h4l5i9");
        Due.due("at STEP 98", x.bears(1, 0, 0, 0, 98), 6);
        Due.due("none but 0 at STEP 99", x.bears(1, 0, 0, 0, 99), 0);
        for (int v : new int[] {-1, 100, LOW, TOP}) {
            Due.refused("STEP " + v, Due::full, y -> y.bears(0, 0, 20, 10, v), BAD, 0);
            Due.refused("STEP " + v + ", missing", Due::lastMissing, y -> y.bears(3, 0, 20, 10, v), BAD, 0);
        }
        DuckWalk z = Due.with("w8r9h2l5i6j9", "u1");
        Due.due("40", z.bears(0, 0, 64, 13, 0), 40);
        for (int d = 40; d <= 41; d++) {
            // A BUMP of a BOARD takes up to 9: more of them together.
            StringBuilder s = new StringBuilder("u1");
            for (int rest = d; rest > 0; rest -= 9) {
                s.append("b0:").append(Math.min(9, rest));
            }
            Due.boardBy(z, 1, s.toString());
            z.walk(0, 1, 64, 13, 0);
            z.go(200);
            Due.due("by " + d + " it RESTS", Due.toldOf(z, 3), d == 40 ? 0 : 1);
        }
        Due.says(38, "NONE: it does so by 0. BAD; NOTHING.");
        Due.Scene ends = () -> {
            DuckWalk y = Due.full();
            Due.walkerBy(y, 0, "w1r9h1l9");
            Due.boardBy(y, 0, "u1");
            return y;
        };
        Due.none("it RESTS", ends, y -> y.bears(0, 0, 0, 0, 0));
        Due.none("it FALLS", ends, y -> y.bears(0, 0, 99, 3, 0));
        Due.none("it has fallen ahead of STEP 99", ends, y -> y.bears(0, 0, 99, 3, 99));
    }

    private static void meets() {
        Due.says(39, "Two WALKERS on a BOARD, a SLOPE, each from a PACE, FOOT 0 first, without BUMPS: after how many STEPS (1 .. 400) both first have PACES alike, while both go. NONE: never. BAD; NOTHING.");
        DuckWalk x = Due.with("w5r6h4l5", "b0:9");
        Due.due("with itself", x.meets(0, 0, 0, 20, 10), 1);
        Due.walkerBy(x, 1, "w5r6h4l5j1");
        Due.due("FOOT 0 first", x.meets(0, 1, 0, 20, 10), 1);
        // 12 stays 12; by WAX 1 beneath both 13 + 11 - 10 - 1 = 13 stays 13
        Due.Scene apart = () -> {
            DuckWalk z = Due.full();
            Due.walkerBy(z, 0, "w5r6h4l5");
            Due.walkerBy(z, 1, "w5r6h4l5i1j1");
            return z;
        };
        Due.none("never, though both go", apart, z -> z.meets(0, 1, 0, 20, 12));
        Due.due("both go", apart.make().going(1, 0, 20, 12), 1);
        DuckWalk y = Due.with("w8r9h5l3i5j6", "u5");
        Due.walkerBy(y, 1, "w6r7h8l2i2j2");
        Due.due("after 25", y.meets(0, 1, 0, 72, 10), 25);
        Due.due("the other one first", y.meets(1, 0, 0, 72, 10), 25);
        Due.Scene two = () -> {
            DuckWalk z = Due.full();
            Due.walkerBy(z, 0, "w1r9h1l9");
            Due.walkerBy(z, 1, "w9r9h1l9");
            Due.walkerBy(z, 2, "w9r9h1l9i1j1");
            Due.boardBy(z, 0, "u1");
            return z;
        };
        // 0 + 29 - 1 = 28 (SLOPE 33), 29 (SLOPE 34): WIDE 1 FALLS above 28
        Due.due("both at 28", two.make().meets(0, 1, 0, 33, 0), 1);
        Due.none("alike at 29, but one FALLS", two, z -> z.meets(0, 1, 0, 34, 0));
        Due.none("the other one FALLS", two, z -> z.meets(1, 0, 0, 34, 0));
        Due.none("both FALL alike", two, z -> z.meets(0, 0, 0, 34, 0));
        Due.none("both REST alike", two, z -> z.meets(1, 2, 0, 0, 0));
        Due.none("one RESTS", two, z -> z.meets(1, 2, 0, 3, 0));
        // 13 + 13 - 6 - 1 = 19, 19 + 13 - 14 - 1 = 17; 13 + 14 - 6 - 1 = 20, 20 + 14 - 16 - 1 = 17
        Due.due("PACES at first do not count", two.make().meets(1, 2, 0, 15, 13), 2);
        Due.refused("no other one", Due::lastMissing, z -> z.meets(0, 3, 0, 20, 10), Due.FINDING, NOTHING);
        Due.refused("no first one", Due::lastMissing, z -> z.meets(3, 0, 0, 20, 10), Due.FINDING, NOTHING);
        Due.refused("no BOARD", Due::lastMissing, z -> z.meets(0, 0, 3, 20, 10), Due.FINDING, NOTHING);
        Due.refused("none of them", Due::lastMissing, z -> z.meets(3, 3, 3, 20, 10), Due.FINDING, NOTHING);
    }

    // ======== what is told

    /** asked() is 77 ahead of the call; what it is behind it. */
    private static int askedBehind(Due.Call call) {
        DuckWalk x = Due.full();
        Due.rowBy(x, 0, 77, 13, 12);
        x.at(0, 0);
        int answer = call.on(x);
        Due.holds("the call is answered: " + answer, answer >= 0);
        return x.asked();
    }

    private static void askedByWhich() {
        Due.says(40, "What the latest lay(), at(), mean(), about(), rub(), told(), turns(), going(), lines(), begins(), wide(), mend(), limp(), part(), would(), yard(), push() that was not refused (nor NONE) told; 0 before.");
        Due.due("before", new DuckWalk().asked(), 0);
        Due.Call[] tell = {x -> x.lay(0, 1, 5), x -> x.at(0, 1), x -> x.mean(1), x -> x.about(0, 0), x -> x.rub(1, 3),
            x -> x.told(2), x -> x.turns(), x -> x.going(0, 0, 20, 10), x -> x.lines(0, 0, 10, 1),
            x -> x.begins(0, 0, 20), x -> x.wide(0, 0, 10), x -> x.mend(0, 0, 20, 10), x -> x.limp(0, 0, 1),
            x -> x.part(0, 0, 10, 0), x -> x.would(0, 0, 20, 10), x -> x.yard(0, 0, 20, 10, 6), x -> x.push(0, 0, 10)};
        int[] told = {13, 13, 12, 5, 4, 2, NONE, 2, 2, 0, 30, 12, 0, 20, 5645, 6, 3};
        for (int n = 0; n < tell.length; n++) {
            int asked = askedBehind(tell[n]);
            Due.due("call " + n + " tells", asked, told[n]);
        }
        Due.Call[] silent = {x -> x.row(0, 3), x -> x.tear(0), x -> x.copy(0, 0, 1, 0, 1), x -> x.text(0, 3),
            x -> x.put(0, 0, 5), x -> x.fault(3, false), x -> x.walker(0, 0), x -> x.board(0, 1), x -> x.wax(0, 0, 1),
            x -> x.walk(0, 0, 5, 5, 0), x -> x.go(1), x -> x.tocks(2, 0), x -> x.tilt(1), x -> x.keep(0), x -> x.on(0),
            x -> x.mark(0, 0, 20, 10, 1), x -> x.mends(0, 0, 20, 10, 1), x -> x.odds(0, 0, 1),
            x -> x.made(0, 0, 20, 10), x -> x.bears(0, 0, 20, 10, 1), x -> x.meets(0, 0, 0, 20, 10), x -> x.count(1),
            x -> x.finding(), x -> x.findings(2), x -> x.upper() > 0 ? 1 : 0, x -> x.lower() > 0 ? 1 : 0,
            x -> x.digest() == 0 ? 0 : 1};
        for (int n = 0; n < silent.length; n++) {
            Due.due("call " + n + " tells nothing by it", askedBehind(silent[n]), 77);
        }
        Due.none("mend() by none", Due::full, x -> x.mend(0, 0, 99, 10));
        Due.none("yard() by none", Due::full, x -> x.yard(0, 0, 0, 0, 6));
        Due.none("push() by none", Due::full, x -> x.push(0, 0, 99));
    }

    private static void fractions() {
        Due.says(41, "The upper number of the fraction that was told last; 0 before.");
        DuckWalk x = Due.with("w5r6h4l5", "u1");
        Due.due("before", x.upper(), 0);
        Due.says(42, "Its lower number; 1 before.");
        Due.due("before", x.lower(), 1);
        x.made(0, 0, 20, 10);
        Due.fraction(x, "18 of 27", 2, 3);
        Due.says(0, "Fractions are told by upper(), lower(), in lowest terms, the lower number above 0 (0 by 1).");
        x.made(0, 0, 99, 10);
        Due.fraction(x, "0 of 27", 0, 1);
        Due.rowBy(x, 0, 10, 13);
        x.odds(0, 0, 0);
        Due.fraction(x, "18 of 20", 9, 10);
        x.made(3, 0, 20, 10);
        x.odds(0, 0, 3);
        x.odds(0, 0, 6);
        Due.fraction(x, "refused", 9, 10);
        x.going(0, 0, 20, 10);
        x.mean(0);
        x.would(0, 0, 20, 10);
        x.part(0, 0, 10, 0);
        x.limp(0, 0, 0);
        Due.fraction(x, "told by no other call", 9, 10);
        x.made(0, 0, 20, 10);
        Due.fraction(x, "the last one", 2, 3);
    }

    private static void counts() {
        Due.says(43, "0 WALKERS, 1 BOARDS, 2 DRAWINGS, 3 STEPS done by the WALK (0: none), 4 kept WALKS, 5 ROWS, 6 TEXTS that are there. BAD.");
        int[][] all = {{0, 0, 0, 0, 0, 0, 0}, {3, 3, 1, 2, 2, 5, 3}, {4, 4, 1, 2, 3, 6, 4}};
        DuckWalk[] of = {new DuckWalk(), Due.lastMissing(), Due.full()};
        for (int n = 0; n < of.length; n++) {
            for (int what = 0; what <= 6; what++) {
                Due.due("count(" + what + ") of " + n, of[n].count(what), all[n][what]);
            }
        }
        // Each of its own number, so that none stands for another one.
        DuckWalk y = new DuckWalk();
        for (int k = 0; k <= 3; k++) {
            Due.walkerBy(y, k, k < 2 ? "l?" : "");
        }
        Due.boardBy(y, 3, "");
        for (int r = 0; r <= 5; r++) {
            y.row(r, 0);
        }
        y.walk(0, 3, 0, 10, 0);
        y.keep(0);
        y.keep(1);
        y.keep(2);
        int steps = y.go(400);
        int[] own = {4, 1, 2, steps, 3, 6, 1};
        for (int what = 0; what <= 6; what++) {
            Due.due("count(" + what + ")", y.count(what), own[what]);
        }
        DuckWalk x = Due.full();
        for (int k = 0; k <= 3; k++) {
            Due.walkerBy(x, k, "l?");
        }
        Due.due("four DRAWINGS", x.count(2), 4);
        Due.due("four WALKERS", x.count(0), 4);
        x.row(0, 0);
        x.text(0, 0);
        Due.due("an empty ROW is there", x.count(5), 6);
        Due.due("an empty TEXT is there", x.count(6), 4);
        x.walk(0, 0, 0, 0, 0);
        Due.due("a WALK of no STEPS", x.count(3), 0);
        for (int v : new int[] {-1, 7, LOW, TOP}) {
            Due.refused("count(" + v + ")", Due::full, z -> z.count(v), BAD, 0);
        }
    }

    private static void findings() {
        Due.says(44, "The latest FINDING (0 before any).");
        DuckWalk x = new DuckWalk();
        Due.due("before any", x.finding(), 0);
        x.row(6, 0);
        x.go(1);
        Due.due("BAD and STATE are none", x.finding(), 0);
        x.row(0, 2);
        x.row(1, 0);
        Due.says(0, "NOUGHT (shared among none), 5 SIZE (fewer than none; not as many as due).");
        Due.finds(x, "SIZE", x.row(0, -1), 5);
        Due.finds(x, "NOUGHT", x.mean(1), 4);
        Due.finds(x, "BEYOND", x.at(0, 2), 2);
        Due.finds(x, "NOTHING", x.at(2, 2), 1);
        Due.walkerBy(x, 0, "");
        Due.boardBy(x, 0, "");
        Due.finds(x, "UNLIKE", x.mark(0, 0, 0, 0, 5), 3);
        x.at(0, 0);
        x.at(9, 0);
        Due.due("the latest stays", x.finding(), 3);
        Due.says(45, "How often a FINDING (1 .. 5) was answered. BAD.");
        for (int f = 1; f <= 5; f++) {
            Due.due("findings(" + f + ")", x.findings(f), 1);
        }
        for (int n = 0; n < 99; n++) {
            x.at(0, 2);
        }
        Due.due("a hundred", x.findings(2), 100);
        Due.due("the other ones stay", x.findings(1), 1);
        for (int v : new int[] {-1, 0, 6, LOW, TOP}) {
            Due.refused("findings(" + v + ")", Due::full, y -> y.findings(v), BAD, 0);
        }
    }

    private static long on(long h, int... values) {
        for (int v : values) {
            h = 31 * h + v;
        }
        return h;
    }

    private static void digests() {
        Due.says(46, "count() 0 to 6; of each WALKER (-1 once: missing) about() 0 to 6; of each BOARD (-1 once: missing) RUB, of each STEP 0 to 99 all BUMPS together;");
        DuckWalk x = new DuckWalk();
        long h = on(17, 0, 0, 0, 0, 0, 0, 0);
        h = on(h, -1, -1, -1, -1);
        h = on(h, -1, -1, -1, -1);
        h = on(h, -1);
        h = on(h, -1, -1, -1, -1, -1, -1);
        Due.due("all missing", x.digest(), on(h, -1, -1, -1, -1));
        Due.says(46, "of each ROW its size (-1: missing) and places, of each TEXT likewise.");
        x.row(0, 0);
        x.row(5, 2);
        x.lay(5, 0, LOW);
        x.lay(5, 1, -7);
        x.text(0, 0);
        x.text(3, 2);
        x.put(3, 0, -128);
        h = on(17, 0, 0, 0, 0, 0, 2, 2);
        h = on(h, -1, -1, -1, -1, -1, -1, -1, -1, -1);
        h = on(h, 0, -1, -1, -1, -1, 2, LOW, -7);
        Due.due("empty ones are not missing", x.digest(), on(h, 0, -1, -1, 2, -128, 32));
        x.tear(5);
        h = on(17, 0, 0, 0, 0, 0, 1, 2);
        h = on(h, -1, -1, -1, -1, -1, -1, -1, -1, -1);
        h = on(h, 0, -1, -1, -1, -1, -1);
        Due.due("a torn one is missing", x.digest(), on(h, 0, -1, -1, 2, -128, 32));
        Due.says(46, "of the WALK (-1 once: none) told() 0 to 6;");
        DuckWalk y = Due.with("w9l9i9j8", "u3b0:1b99:9b99:9");
        y.walk(0, 0, 99, 6, 0);
        // 6 + 89 + 9 - 2 - 3 - 1 = 98 is above 92: it FELL; LEGS 9 and 9 went; DAMP 13
        y.go(1);
        y.text(3, 0);
        h = on(17, 1, 1, 0, 1, 0, 0, 1);
        h = on(h, 9, 5, 5, 9, 9, 8, 0, -1, -1, -1);
        h = on(h, 3, 1);
        for (int step = 1; step < 99; step++) {
            h = on(h, 0);
        }
        h = on(h, 18, -1, -1, -1);
        h = on(h, 98, 0, 1, 2, 99, 2, 18);
        h = on(h, -1, -1, -1, -1, -1, -1);
        Due.due("a fallen one", y.digest(), on(h, -1, -1, -1, 0));
        Due.says(46, "h = 17; then h = 31 h + v for each v (of a call that tells by asked(): what it tells, not the 1 that it answers; asked() stays)");
        y.told(6);
        y.digest();
        Due.due("asked() stays", y.asked(), 18);
    }
}
