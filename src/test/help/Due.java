import java.io.IOException;
import java.nio.file.Files;
import java.nio.file.Path;
import java.util.ArrayList;
import java.util.List;
import java.util.TreeSet;

/** What the tests of the document's edges share: its sentences, what is due, objects to begin with. */
final class Due {
    static final int LOW = Integer.MIN_VALUE, TOP = Integer.MAX_VALUE;
    static final int BAD = DuckWalk.BAD, FINDING = DuckWalk.FINDING, STATE = DuckWalk.STATE;
    static final int SPENT = DuckWalk.SPENT, NONE = DuckWalk.NONE;
    static final int NOTHING = 1, BEYOND = 2, UNLIKE = 3, NOUGHT = 4, SIZE = 5;

    private static final TreeSet<Integer> PROMISES = new TreeSet<>();
    private static final String DOCUMENT = document();
    private static String sentence = "";
    private static int wrong = 0;

    private Due() {
    }

    interface Call {
        int on(DuckWalk x);
    }

    interface Scene {
        DuckWalk make();
    }

    /** The words of the document (promise 0: its Terms) that the tests behind this line hold it to. */
    static void says(int promise, String words) {
        sentence = (promise == 0 ? "Terms: " : "promise " + promise + ": ") + words;
        PROMISES.add(promise);
        // A sentence that the document does not have would be a test of something else.
        if (DOCUMENT != null && !DOCUMENT.contains(words)) {
            wrong++;
            System.out.println("the document does not say: " + words);
        }
    }

    private static String document() {
        try {
            return Files.readString(Path.of("../shared/DOC.md"));
        } catch (IOException e) {
            System.out.println("the document is not at hand: its words are not looked up");
            return null;
        }
    }

    static void due(String what, long got, long want) {
        if (got != want) {
            wrong++;
            System.out.println(sentence + "\n    " + what + " answered " + got + ", due is " + want);
        }
    }

    static void holds(String what, boolean is) {
        due(what, is ? 1 : 0, 1);
    }

    /** A call that tells by asked(). */
    static void tells(DuckWalk x, String what, int got, int want, int asked) {
        due(what, got, want);
        due(what + ", asked()", x.asked(), asked);
    }

    static void finds(DuckWalk x, String what, int got, int finding) {
        due(what, got, FINDING);
        due(what + ", finding()", x.finding(), finding);
    }

    static void fraction(DuckWalk x, String what, long upper, long lower) {
        due(what + ", upper()", x.upper(), upper);
        due(what + ", lower()", x.lower(), lower);
    }

    /**
     * The call is refused, and of two objects made alike the one that it was asked of is still as the
     * other one, but for the FINDING (0: it is none).
     */
    static void refused(String what, Scene scene, Call call, int answer, int finding) {
        DuckWalk x = scene.make();
        DuckWalk y = scene.make();
        due(what, call.on(x), answer);
        due(what + ": finding()", x.finding(), finding == 0 ? y.finding() : finding);
        for (int f = NOTHING; f <= SIZE; f++) {
            due(what + ": findings(" + f + ")", x.findings(f), y.findings(f) + (f == finding ? 1 : 0));
        }
        if (!state(x).equals(state(y))) {
            due(what + ": what has changed", 1, 0);
        }
    }

    /** NONE is no refusal, but changes as little. */
    static void none(String what, Scene scene, Call call) {
        refused(what, scene, call, NONE, 0);
    }

    /** All that can be seen of an object; what the WALK and the kept ones go by is seen by going on. */
    static List<Long> state(DuckWalk x) {
        List<Long> all = new ArrayList<>(List.of(x.digest(), (long) x.asked(), x.upper(), x.lower()));
        goOn(x, all);
        for (int k = 0; k <= 2; k++) {
            all.add((long) x.on(k));
            goOn(x, all);
        }
        return all;
    }

    private static void goOn(DuckWalk x, List<Long> all) {
        for (int what = 0; what <= 6; what++) {
            all.add((long) x.told(what));
            all.add((long) x.asked());
        }
        for (int n = 0; n < 4; n++) {
            all.add((long) x.go(1));
            x.told(0);
            all.add((long) x.asked());
        }
        all.add((long) x.turns());
        all.add((long) x.asked());
    }

    static void write(DuckWalk x, int t, String s) {
        x.text(t, s.length());
        for (int i = 0; i < s.length(); i++) {
            if (s.charAt(i) != ' ') {
                x.put(t, i, s.charAt(i));
            }
        }
    }

    static int faultOf(String s, boolean board) {
        DuckWalk x = new DuckWalk();
        write(x, 0, s);
        return x.fault(0, board);
    }

    /** WALKER k by TEXT 3, written anew. */
    static int walkerBy(DuckWalk x, int k, String s) {
        write(x, 3, s);
        return x.walker(k, 3);
    }

    static int boardBy(DuckWalk x, int k, String s) {
        write(x, 3, s);
        return x.board(k, 3);
    }

    /** WALKER 0 and BOARD 0 are there. */
    static DuckWalk with(String walker, String board) {
        DuckWalk x = new DuckWalk();
        walkerBy(x, 0, walker);
        boardBy(x, 0, board);
        return x;
    }

    static void rowBy(DuckWalk x, int r, int... v) {
        x.row(r, v.length);
        for (int i = 0; i < v.length; i++) {
            x.lay(r, i, v[i]);
        }
    }

    static int place(DuckWalk x, int r, int i) {
        x.at(r, i);
        return x.asked();
    }

    static int toldOf(DuckWalk x, int what) {
        x.told(what);
        return x.asked();
    }

    static int aboutOf(DuckWalk x, int k, int what) {
        x.about(k, what);
        return x.asked();
    }

    static String many(String s, int n) {
        return s.repeat(n);
    }

    /** All of all kinds are there. */
    static DuckWalk full() {
        return filled(0);
    }

    /** Of each kind all but the last one are there. */
    static DuckWalk lastMissing() {
        return filled(1);
    }

    /** All but the WALK and the kept ones. */
    static DuckWalk noWalk() {
        DuckWalk x = new DuckWalk();
        fill(x, 0);
        tellSomething(x);
        return x;
    }

    /** A WALK of 10000 STEPS, which may do none more. */
    static DuckWalk spent() {
        DuckWalk x = with("w5r6h4l5", "");
        x.walk(0, 0, 20, 10, 0);
        for (int n = 0; n < 25; n++) {
            x.go(400);
        }
        rowBy(x, 0, 7, 8);
        return x;
    }

    private static DuckWalk filled(int missing) {
        DuckWalk x = new DuckWalk();
        fill(x, missing);
        for (int k = 0; k < 3 - missing; k++) {
            x.walk(1, 1, 20 + k, 10, k % 2);
            x.go(k + 1);
            x.keep(k);
        }
        x.walk(0, 2, 30, 11, 0);
        x.go(2);
        tellSomething(x);
        return x;
    }

    private static void fill(DuckWalk x, int missing) {
        String[] walkers = {"w5r6h4", "w9r9h1i2", "w?r6h4", "w7r3j1"};
        String[] boards = {"u1", "u2b3:4", "b0:1b9:2", "u0"};
        String[] texts = {"w5r6", "u2", "w?", "w"};
        for (int k = 0; k < 4 - missing; k++) {
            write(x, 0, walkers[k]);
            x.walker(k, 0);
            write(x, 0, boards[k]);
            x.board(k, 0);
        }
        for (int t = 0; t < 4 - missing; t++) {
            write(x, t, texts[t]);
        }
        for (int r = 0; r < 6 - missing; r++) {
            rowBy(x, r, 10 + r, 13, 12);
        }
    }

    /** asked(), upper(), lower(), finding() are none of their first ones. */
    private static void tellSomething(DuckWalk x) {
        x.made(0, 0, 20, 10);
        x.mean(0);
        x.at(0, 3);
    }

    static void allPromises() {
        for (int promise = 1; promise <= 46; promise++) {
            if (!PROMISES.contains(promise)) {
                wrong++;
                System.out.println("no sentence of promise " + promise);
            }
        }
    }

    static void end() {
        System.out.println(wrong == 0 ? "all edges are as due" : wrong + " answers are not as due");
        if (wrong != 0) {
            System.exit(1);
        }
    }
}
