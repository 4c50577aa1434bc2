import java.lang.reflect.Method;
import java.util.ArrayList;
import java.util.Arrays;
import java.util.HashSet;
import java.util.LinkedHashMap;
import java.util.List;
import java.util.Map;
import java.util.Random;
import java.util.Set;
import java.util.TreeMap;
import java.util.regex.Matcher;
import java.util.regex.Pattern;

/**
 * Long runs of calls by fixed seeds, each answer beside that of a second reading of the document:
 * the Model below, written anew from its words, with maps, lists and patterns.
 */
public final class ModelRuns {
    private static final int RUNS = 600, CALLS = 512;
    private static int wrong = 0;

    public static void main(String[] args) throws Exception {
        Map<String, Integer> answered = new TreeMap<>();
        for (int seed = 1; seed <= RUNS && wrong < 20; seed++) {
            new Run(seed, answered).all();
        }
        for (String call : Run.CALLED.keySet()) {
            isOften(call, answered);
        }
        // No walker at all is MUDDLED (3): of all that there can be, each ROUND TRIP is of 2 or 4.
        for (int kind : new int[] {1, 2, 4, 5, 6, 7}) {
            isOften("a going of kind " + kind, answered);
        }
        System.out.println("answered, not refused: " + answered);
        System.out.println(wrong == 0 ? "as the model, " + RUNS + " runs" : wrong + " answers are not as the model's");
        if (wrong != 0) {
            System.exit(1);
        }
    }

    private static void isOften(String what, Map<String, Integer> answered) {
        if (answered.getOrDefault(what, 0) < 10) {
            wrong++;
            System.out.println("hardly ever: " + what + " " + answered.get(what));
        }
    }

    /** One run on one object, and on one Model. */
    private static final class Run {
        static final Map<String, String> CALLED = new LinkedHashMap<>();

        static {
            // What each argument is: r row, i place, v any int, n size, t text, k walker, b board,
            // s slope, p pace, f foot, other letters as draw() has them.
            String[] calls = {"row rn", "lay riv", "at ri", "tear r", "copy ririz", "mean r", "text tm", "put tjv",
                "fault tB", "walker kt", "board bt", "about kw", "rub bu", "wax kfx", "walk kbspf", "go g", "told w",
                "tocks cr", "tilt s", "keep q", "on q", "turns ", "going kbsp", "mark kbspK", "lines kbpK",
                "begins kbs", "mends kbspd", "wide kbp", "mend kbsp", "limp kbr", "odds kbr", "part kbpW",
                "made kbsp", "would kbsp", "yard kbspy", "push kbp", "bears kbspu", "meets kkbsp", "asked ",
                "upper ", "lower ", "count w", "finding ", "findings F", "digest "};
            for (String call : calls) {
                CALLED.put(call.substring(0, call.indexOf(' ')), call.substring(call.indexOf(' ') + 1));
            }
        }

        final int seed;
        final Random random;
        final DuckWalk real = new DuckWalk();
        final Model model = new Model();
        final Map<String, Integer> answered;
        final List<String> names = new ArrayList<>(CALLED.keySet());
        int calls = 0;

        Run(int seed, Map<String, Integer> answered) {
            this.seed = seed;
            this.random = new Random(seed);
            this.answered = answered;
        }

        void all() throws Exception {
            while (calls < CALLS - 110) {
                int what = random.nextInt(60);
                if (what < 2 || calls < 60 && what < 20) {
                    write(false);
                } else if (what < 4 || calls < 60 && what < 40) {
                    write(true);
                } else if (what == 4) {
                    hear();
                } else if (what == 5) {
                    shift();
                } else if (what < 9) {
                    look();
                } else {
                    String name = names.get(random.nextInt(names.size()));
                    // It is dear, and answers alike.
                    if (!name.equals("wide") || random.nextInt(3) == 0) {
                        both(name, draw(CALLED.get(name)));
                    }
                }
                both("digest", new Object[0]);
            }
            for (int f = 1; f <= 5; f++) {
                both("findings", new Object[] {f});
            }
        }

        /** Writes a TEXT, mostly without a FAULT, and makes a WALKER or a BOARD by it. */
        void write(boolean board) throws Exception {
            StringBuilder s = new StringBuilder();
            int items = random.nextInt(board ? 11 : 7);
            for (int n = 0; n < items; n++) {
                s.append(random.nextInt(4) == 0 ? " " : "").append(board ? boardItem() : walkerItem());
            }
            if (!board && random.nextInt(3) == 0) {
                // Narrow and round: such a one may run.
                s.append("w1r9h").append(1 + random.nextInt(3));
            }
            if (random.nextInt(6) == 0 && s.length() > 0) {
                s.setCharAt(random.nextInt(s.length()), "w?u0b:9 xi".charAt(random.nextInt(10)));
            }
            if (random.nextInt(12) == 0 && s.length() > 0) {
                s.setLength(s.length() - 1);
            }
            int t = random.nextInt(4);
            both("text", new Object[] {t, s.length()});
            for (int i = 0; i < s.length(); i++) {
                if (s.charAt(i) != ' ') {
                    both("put", new Object[] {t, i, (int) s.charAt(i)});
                }
            }
            both("fault", new Object[] {t, board});
            both(board ? "board" : "walker", new Object[] {random.nextInt(4), t});
        }

        String walkerItem() {
            String letter = "" + "wrhlij".charAt(random.nextInt(6));
            if ("ij".contains(letter)) {
                return letter + random.nextInt(4) * random.nextInt(2);
            }
            return letter + (random.nextInt(5) == 0 ? "?" : "" + (1 + random.nextInt(9)));
        }

        String boardItem() {
            if (random.nextInt(3) == 0) {
                return "u" + random.nextInt(random.nextBoolean() ? 3 : 10);
            }
            return "b" + random.nextInt(random.nextBoolean() ? 10 : 100) + ":" + (1 + random.nextInt(9));
        }

        /** TOCKS that a walker may well have had. */
        void hear() throws Exception {
            int k = random.nextInt(4), b = random.nextInt(4), r = random.nextInt(6);
            both("walk", new Object[] {k, b, random.nextInt(60), random.nextInt(25), random.nextInt(2)});
            both("tocks", new Object[] {2 + random.nextInt(12), r});
            both("limp", new Object[] {k, b, r});
            both("asked", new Object[0]);
            both("odds", new Object[] {k, b, r});
            both("upper", new Object[0]);
            both("lower", new Object[0]);
        }

        /** All that is told of one GOING; mostly on a slope on which it goes. */
        void look() throws Exception {
            int k = random.nextInt(4), b = random.nextInt(4), slope = 8 + random.nextInt(random.nextBoolean() ? 24 : 80), pace = 3 + random.nextInt(16);
            both("going", new Object[] {k, b, slope, pace});
            for (int kind = 1; kind <= 7; kind++) {
                both("mark", new Object[] {k, b, slope, pace, kind});
            }
            both("mends", new Object[] {k, b, slope, pace, one('d')});
            both("bears", new Object[] {k, b, slope, pace, one('u')});
            both("yard", new Object[] {k, b, slope, pace, one('y')});
            both("mend", new Object[] {k, b, slope, pace});
        }

        /** Places within two ROWS, or one, often overlapping. */
        void shift() throws Exception {
            int r = random.nextInt(6), to = random.nextInt(3) == 0 ? random.nextInt(6) : r;
            both("row", new Object[] {r, 8});
            for (int i = 0; i < 8; i++) {
                both("lay", new Object[] {r, i, one('v')});
            }
            both("copy", new Object[] {r, one('z'), to, one('z'), one('z')});
        }

        Object[] draw(String kinds) {
            Object[] args = new Object[kinds.length()];
            for (int n = 0; n < args.length; n++) {
                args[n] = kinds.charAt(n) == 'B' ? (Object) random.nextBoolean() : (Object) one(kinds.charAt(n));
            }
            return args;
        }

        int one(char kind) {
            if (random.nextInt(60) == 0) {
                int[] odd = {-1, -2, 100, 101, 61, 81, 400, 401, 2001, Integer.MIN_VALUE, Integer.MAX_VALUE};
                return odd[random.nextInt(odd.length)];
            }
            switch (kind) {
                case 'r': return random.nextInt(6);
                case 'i': return random.nextInt(8);
                case 'v': return random.nextInt(10) == 0 ? random.nextInt() : random.nextInt(60);
                case 'n': case 'c': return random.nextInt(random.nextBoolean() ? 8 : 61);
                case 't': case 'k': case 'b': return random.nextInt(4);
                case 'm': return random.nextInt(random.nextBoolean() ? 8 : 81);
                case 'j': return random.nextInt(20);
                case 'w': return random.nextInt(7);
                case 'u': return random.nextInt(random.nextBoolean() ? 12 : 100);
                case 'f': return random.nextInt(2);
                case 'x': return random.nextInt(10);
                case 'z': return random.nextInt(5);
                case 's': return random.nextInt(random.nextBoolean() ? 40 : 100);
                case 'p': return random.nextInt(random.nextBoolean() ? 20 : 100);
                case 'g': return random.nextInt(random.nextBoolean() ? 10 : 401);
                case 'q': return random.nextInt(3);
                case 'K': return random.nextInt(8);
                case 'd': return 1 + random.nextInt(20);
                case 'W': return random.nextInt(4);
                case 'y': return 1 + random.nextInt(random.nextBoolean() ? 60 : 2000);
                case 'F': return 1 + random.nextInt(5);
                default: throw new IllegalStateException("" + kind);
            }
        }

        void both(String name, Object[] args) throws Exception {
            calls++;
            compare(name, args);
            compare("asked", new Object[0]);
            compare("upper", new Object[0]);
            compare("lower", new Object[0]);
            compare("finding", new Object[0]);
        }

        void compare(String name, Object[] args) throws Exception {
            long got = ((Number) method(DuckWalk.class, name).invoke(real, args)).longValue();
            long want = ((Number) method(Model.class, name).invoke(model, args)).longValue();
            if (got != want && wrong++ < 20) {
                System.out.println("seed " + seed + ", call " + calls + ": " + name + Arrays.toString(args)
                    + " answered " + got + ", the model " + want);
            }
            if (want >= 0 || want == DuckWalk.NONE || name.equals("digest")) {
                answered.merge(name, 1, Integer::sum);
            }
            if (name.equals("going") && want > 0) {
                answered.merge("a going of kind " + want, 1, Integer::sum);
            }
            if (want == DuckWalk.NONE && !name.equals("asked")) {
                answered.merge("none by " + name, 1, Integer::sum);
            }
        }

        static final Map<String, Method> METHODS = new LinkedHashMap<>();

        static Method method(Class<?> c, String name) {
            return METHODS.computeIfAbsent(c.getName() + "." + name, key -> {
                for (Method m : c.getDeclaredMethods()) {
                    if (m.getName().equals(name)) {
                        return m;
                    }
                }
                throw new IllegalStateException(key);
            });
        }
    }

    /** Thrown where the document refuses a call. */
    private static final class Refused extends RuntimeException {
        private static final long serialVersionUID = 1;
        final int answer;
        final int finding;

        Refused(int answer, int finding) {
            this.answer = answer;
            this.finding = finding;
        }
    }

    /** A WALKER; of its sizes "wrhlij" by letter, and the letters that are not told. */
    private static final class Figure implements Cloneable {
        final Map<Character, Integer> size = new LinkedHashMap<>();
        final Set<Character> untold = new HashSet<>();

        Figure() {
            for (char c : "wrhl".toCharArray()) {
                size.put(c, 5);
            }
            size.put('i', 0);
            size.put('j', 0);
        }

        Figure with(Object... pairs) {
            Figure f = new Figure();
            f.size.putAll(size);
            f.untold.addAll(untold);
            for (int n = 0; n < pairs.length; n += 2) {
                f.size.put((Character) pairs[n], (Integer) pairs[n + 1]);
            }
            return f;
        }

        int get(char c) {
            return size.get(c);
        }

        int fallsAbove() {
            return 20 + 8 * get('w');
        }
    }

    /** A BOARD, or a board without its BUMPS. */
    private static final class Way {
        int rub = 1;
        final List<int[]> bumps = new ArrayList<>();

        Way bare() {
            Way w = new Way();
            w.rub = rub;
            return w;
        }

        int bumpsAt(int step) {
            return bumps.stream().filter(b -> b[0] == step).mapToInt(b -> b[1]).sum();
        }
    }

    /** A WALK. */
    private static final class Walk {
        Figure figure;
        Way way;
        int slope, pace, foot, steps, end, lost, went;

        Walk(Figure figure, Way way, int slope, int pace, int foot) {
            this.figure = figure;
            this.way = way;
            this.slope = slope;
            this.pace = pace;
            this.foot = foot;
        }

        Walk same() {
            Walk w = new Walk(figure, way, slope, pace, foot);
            w.steps = steps;
            w.end = end;
            w.lost = lost;
            w.went = went;
            return w;
        }

        int gain() {
            return slope * figure.get('l') / 10 + figure.get(foot == 0 ? 'i' : 'j');
        }

        boolean step() {
            if (end != 0) {
                return false;
            }
            int damp = 8 + 2 * figure.get('r') - figure.get('h');
            int then = pace + gain() - pace * pace / damp - way.rub - way.bumpsAt(steps);
            lost += pace * pace / damp;
            steps++;
            if (then < 3) {
                end = 1;
                pace = 0;
            } else if (then > figure.fallsAbove()) {
                end = 2;
                pace = then;
            } else {
                pace = then;
                foot = foot == 0 ? 1 : 0;
            }
            went += figure.get('l') + pace / 10;
            return true;
        }

        int[] all() {
            return new int[] {pace, foot, steps, end, slope, lost, went};
        }
    }

    /** A GOING, by all its PACES in a list. */
    private static final class Going {
        final Set<Integer> kinds = new HashSet<>();
        final List<Integer> trip = new ArrayList<>();
        final List<Integer> behind = new ArrayList<>();
        int kind;
        int steps;
        final int fallsAbove;

        Going(Figure f, Way w, int slope, int pace) {
            fallsAbove = f.fallsAbove();
            Walk walk = new Walk(f, w.bare(), slope, pace, 0);
            List<String> states = new ArrayList<>();
            List<Integer> paces = new ArrayList<>();
            states.add(pace + "/0");
            paces.add(pace);
            while (walk.steps < 400 && walk.step()) {
                behind.add(walk.pace);
                int before = states.indexOf(walk.pace + "/" + walk.foot);
                if (walk.end == 0 && before >= 0 && trip.isEmpty()) {
                    trip.addAll(paces.subList(before, paces.size()));
                    // All PACES behind are those of the ROUND TRIP again.
                    if (trip.size() <= 4) {
                        break;
                    }
                }
                states.add(walk.pace + "/" + walk.foot);
                paces.add(walk.pace);
            }
            steps = walk.steps;
            kind = walk.end == 1 ? 4 : walk.end == 2 ? 5 : kindOfTrip();
            kinds.add(0);
            kinds.add(kind);
            if (kind == 6) {
                kinds.add(1);
            }
            if (kind == 7) {
                kinds.add(2);
            }
        }

        int kindOfTrip() {
            if (trip.isEmpty()) {
                return 3;
            }
            if (new HashSet<>(trip).size() == 1) {
                return trip.get(0) > fallsAbove / 2 ? 6 : 1;
            }
            return trip.size() > 4 ? 3 : trip.size() == 4 ? 7 : 2;
        }

        boolean well() {
            return kinds.contains(1);
        }

        int mark(int as) {
            int least = trip.stream().mapToInt(p -> p).min().orElse(0);
            int most = trip.stream().mapToInt(p -> p).max().orElse(0);
            switch (as) {
                case 1: return least;
                case 2: return most - least;
                case 3: return new HashSet<>(behind).size();
                case 6: return fallsAbove - least;
                case 7: return least;
                default: return steps;
            }
        }
    }

    /** The document's calls. */
    static final class Model {
        private final int[][] rows = new int[6][];
        private final byte[][] texts = new byte[4][];
        private final Figure[] figures = new Figure[4];
        private final Way[] ways = new Way[4];
        private final Walk[] kept = new Walk[3];
        private final int[] counts = new int[6];
        private Walk walk;
        private int asked, finding;
        private long upper, lower = 1;

        private interface Body {
            int answer();
        }

        private int call(Body body) {
            try {
                return body.answer();
            } catch (Refused r) {
                if (r.finding > 0) {
                    finding = r.finding;
                    counts[r.finding]++;
                }
                return r.answer;
            }
        }

        private static void bad(boolean is) {
            if (is) {
                throw new Refused(-1, 0);
            }
        }

        private static void state(boolean is) {
            if (is) {
                throw new Refused(-4, 0);
            }
        }

        private static void spent(boolean is) {
            if (is) {
                throw new Refused(-6, 0);
            }
        }

        private static void found(int f, boolean is) {
            if (is) {
                throw new Refused(-3, f);
            }
        }

        private static boolean not(int v, int from, int to) {
            return !(from <= v && v <= to);
        }

        private void pair(int k, int b, int slope, int pace, boolean more) {
            bad(not(k, 0, 3) || not(b, 0, 3) || not(slope, 0, 99) || not(pace, 0, 99) || more);
            found(1, figures[k] == null || ways[b] == null);
        }

        int row(int r, int n) {
            return call(() -> {
                bad(not(r, 0, 5) || n > 60);
                found(5, n < 0);
                rows[r] = new int[n];
                return n;
            });
        }

        int lay(int r, int i, int v) {
            return call(() -> {
                bad(not(r, 0, 5));
                found(1, rows[r] == null);
                found(2, not(i, 0, rows[r].length - 1));
                asked = rows[r][i];
                rows[r][i] = v;
                return 1;
            });
        }

        int at(int r, int i) {
            return call(() -> {
                bad(not(r, 0, 5));
                found(1, rows[r] == null);
                found(2, not(i, 0, rows[r].length - 1));
                asked = rows[r][i];
                return 1;
            });
        }

        int tear(int r) {
            return call(() -> {
                bad(not(r, 0, 5));
                found(1, rows[r] == null);
                rows[r] = null;
                return 1;
            });
        }

        int copy(int r, int i, int to, int j, int n) {
            return call(() -> {
                bad(not(r, 0, 5) || not(to, 0, 5));
                found(5, n < 0);
                found(1, rows[r] == null || rows[to] == null);
                found(2, i < 0 || j < 0 || (long) i + n > rows[r].length || (long) j + n > rows[to].length);
                int[] ahead = Arrays.copyOfRange(rows[r], i, i + n);
                for (int x = 0; x < n; x++) {
                    rows[to][j + x] = ahead[x];
                }
                return 1;
            });
        }

        int mean(int r) {
            return call(() -> {
                bad(not(r, 0, 5));
                found(1, rows[r] == null);
                found(4, rows[r].length == 0);
                asked = (int) (Arrays.stream(rows[r]).asLongStream().sum() / rows[r].length);
                return 1;
            });
        }

        int text(int t, int n) {
            return call(() -> {
                bad(not(t, 0, 3) || n > 80);
                found(5, n < 0);
                texts[t] = new byte[n];
                Arrays.fill(texts[t], (byte) ' ');
                return n;
            });
        }

        int put(int t, int i, int v) {
            return call(() -> {
                bad(not(t, 0, 3));
                found(1, texts[t] == null);
                found(2, not(i, 0, texts[t].length - 1));
                int was = texts[t][i];
                texts[t][i] = (byte) v;
                return was + 1000;
            });
        }

        private static String written(byte[] bytes) {
            StringBuilder s = new StringBuilder();
            for (byte b : bytes) {
                s.append((char) (b & 255));
            }
            return s.toString();
        }

        /** The longest beginning that could still go on to be such a TEXT is as long as its FAULT's place. */
        private static int faultOf(String s, boolean board) {
            String whole = board ? "(?: |u[0-9]|b[0-9]{1,2}:[1-9])*" : "(?: |[wrhl][1-9?]|[ij][0-9])*";
            String open = whole + (board ? "(?:u|b|b[0-9]{1,2}|b[0-9]{1,2}:)?" : "[wrhlij]?");
            int ninth = board ? ninthBump(s) : -1;
            for (int n = 1; n <= s.length(); n++) {
                if (!Pattern.matches(open, s.substring(0, n)) || ninth == n - 1) {
                    return n - 1;
                }
            }
            return Pattern.matches(whole, s) ? -9 : s.length();
        }

        private static int ninthBump(String s) {
            int at = -1;
            for (int n = 0; n < 9; n++) {
                at = s.indexOf('b', at + 1);
                if (at < 0) {
                    return -1;
                }
            }
            return at;
        }

        int fault(int t, boolean board) {
            return call(() -> {
                bad(not(t, 0, 3));
                found(1, texts[t] == null);
                return faultOf(written(texts[t]), board);
            });
        }

        int walker(int k, int t) {
            return call(() -> {
                bad(not(k, 0, 3) || not(t, 0, 3));
                found(1, texts[t] == null);
                String s = written(texts[t]);
                state(faultOf(s, false) != -9);
                figures[k] = new Figure();
                Matcher m = Pattern.compile("([a-z])(.)").matcher(s);
                while (m.find()) {
                    char letter = m.group(1).charAt(0);
                    boolean told = !m.group(2).equals("?");
                    figures[k].size.put(letter, told ? Integer.parseInt(m.group(2)) : 5);
                    if (told) {
                        figures[k].untold.remove(letter);
                    } else {
                        figures[k].untold.add(letter);
                    }
                }
                return figures[k].untold.size();
            });
        }

        int board(int k, int t) {
            return call(() -> {
                bad(not(k, 0, 3) || not(t, 0, 3));
                found(1, texts[t] == null);
                String s = written(texts[t]);
                state(faultOf(s, true) != -9);
                ways[k] = new Way();
                Matcher m = Pattern.compile("u([0-9])|b([0-9]+):([0-9])").matcher(s);
                while (m.find()) {
                    if (m.group(1) != null) {
                        ways[k].rub = Integer.parseInt(m.group(1));
                    } else {
                        ways[k].bumps.add(new int[] {Integer.parseInt(m.group(2)), Integer.parseInt(m.group(3))});
                    }
                }
                return ways[k].bumps.size();
            });
        }

        private static int[] aboutAll(Figure f) {
            int bits = 0;
            for (int n = 0; n < 4; n++) {
                bits += f.untold.contains("wrhl".charAt(n)) ? 1 << n : 0;
            }
            return new int[] {f.get('w'), f.get('r'), f.get('h'), f.get('l'), f.get('i'), f.get('j'), bits};
        }

        int about(int k, int what) {
            return call(() -> {
                bad(not(k, 0, 3) || not(what, 0, 6));
                found(1, figures[k] == null);
                asked = aboutAll(figures[k])[what];
                return 1;
            });
        }

        int rub(int k, int step) {
            return call(() -> {
                bad(not(k, 0, 3) || not(step, 0, 99));
                found(1, ways[k] == null);
                asked = ways[k].bumpsAt(step);
                return ways[k].rub;
            });
        }

        int wax(int k, int foot, int v) {
            return call(() -> {
                bad(not(k, 0, 3) || not(foot, 0, 1) || not(v, 0, 9));
                found(1, figures[k] == null);
                char letter = "ij".charAt(foot);
                int was = figures[k].get(letter);
                figures[k] = figures[k].with(letter, v);
                return was;
            });
        }

        int walk(int k, int b, int slope, int pace, int foot) {
            return call(() -> {
                pair(k, b, slope, pace, not(foot, 0, 1));
                walk = new Walk(figures[k], ways[b], slope, pace, foot);
                return walk.gain();
            });
        }

        int go(int n) {
            return call(() -> {
                bad(not(n, 0, 400));
                state(walk == null);
                spent(walk.steps + n > 10000);
                int before = walk.steps;
                for (int x = 0; x < n; x++) {
                    walk.step();
                }
                return walk.steps - before;
            });
        }

        int told(int what) {
            return call(() -> {
                bad(not(what, 0, 6));
                state(walk == null);
                asked = walk.all()[what];
                return 1;
            });
        }

        int tocks(int n, int r) {
            return call(() -> {
                bad(not(n, 0, 60) || not(r, 0, 5));
                state(walk == null);
                spent(walk.steps + n > 10000);
                int before = walk.steps;
                rows[r] = new int[n];
                for (int x = 0; x < n; x++) {
                    rows[r][x] = walk.step() ? walk.pace : 0;
                }
                return walk.steps - before;
            });
        }

        int tilt(int s) {
            return call(() -> {
                bad(not(s, 0, 99));
                state(walk == null);
                int was = walk.slope;
                walk.slope = s;
                return was;
            });
        }

        int keep(int k) {
            return call(() -> {
                bad(not(k, 0, 2));
                state(walk == null);
                kept[k] = walk.same();
                return walk.steps;
            });
        }

        int on(int k) {
            return call(() -> {
                bad(not(k, 0, 2));
                found(1, kept[k] == null);
                walk = kept[k].same();
                return walk.steps;
            });
        }

        int turns() {
            return call(() -> {
                state(walk == null);
                int each = walk.figure.get('j') - walk.figure.get('i');
                asked = -9;
                for (int n = 360; n >= 1 && each != 0; n--) {
                    if (n * each % 360 == 0) {
                        asked = n;
                    }
                }
                int heading = 0;
                for (int n = 0; n < walk.steps; n++) {
                    heading = (heading + each + 360) % 360;
                }
                return heading;
            });
        }

        private Going goingOf(int k, int b, int slope, int pace) {
            return new Going(figures[k], ways[b], slope, pace);
        }

        int going(int k, int b, int slope, int pace) {
            return call(() -> {
                pair(k, b, slope, pace, false);
                Going g = goingOf(k, b, slope, pace);
                asked = g.trip.size();
                return g.kind;
            });
        }

        int mark(int k, int b, int slope, int pace, int kind) {
            return call(() -> {
                pair(k, b, slope, pace, not(kind, 1, 7));
                Going g = goingOf(k, b, slope, pace);
                found(3, !g.kinds.contains(kind));
                return g.mark(kind);
            });
        }

        int lines(int k, int b, int pace, int kind) {
            return call(() -> {
                pair(k, b, 0, pace, not(kind, 0, 7));
                List<Integer> on = new ArrayList<>();
                for (int s = 0; s < 100; s++) {
                    if (goingOf(k, b, s, pace).kinds.contains(kind)) {
                        on.add(s);
                    }
                }
                asked = on.isEmpty() ? -9 : on.get(0);
                return on.size();
            });
        }

        int begins(int k, int b, int slope) {
            return call(() -> {
                pair(k, b, slope, 0, false);
                List<Integer> from = new ArrayList<>();
                for (int p = 0; p < 100; p++) {
                    if (goingOf(k, b, slope, p).well()) {
                        from.add(p);
                    }
                }
                asked = from.isEmpty() ? -9 : from.get(0);
                return from.size();
            });
        }

        int mends(int k, int b, int slope, int pace, int d) {
            return call(() -> {
                pair(k, b, slope, pace, not(d, 1, 20));
                Going g = goingOf(k, b, slope, pace);
                found(3, !g.well());
                int even = g.mark(1);
                Walk w = new Walk(figures[k], ways[b].bare(), slope, even + d, 0);
                while (w.steps < 400 && w.step()) {
                    if (w.pace == even) {
                        return w.steps;
                    }
                }
                return -9;
            });
        }

        private static int span(Figure f, Way w, int pace) {
            int n = 0;
            for (int s = 0; s < 100; s++) {
                n += new Going(f, w, s, pace).well() ? 1 : 0;
            }
            return n;
        }

        int wide(int k, int b, int pace) {
            return call(() -> {
                pair(k, b, 0, pace, false);
                int best = 11;
                int most = span(figures[k].with('r', 1, 'h', 1), ways[b], pace);
                for (int form = 12; form <= 99; form++) {
                    if (form % 10 > 0) {
                        int n = span(figures[k].with('r', form / 10, 'h', form % 10), ways[b], pace);
                        best = n > most ? form : best;
                        most = Math.max(most, n);
                    }
                }
                asked = most;
                return best;
            });
        }

        int mend(int k, int b, int slope, int pace) {
            return call(() -> {
                pair(k, b, slope, pace, false);
                int best = -9;
                for (int i = 0; i <= 9; i++) {
                    for (int j = 0; j <= 9; j++) {
                        Going g = new Going(figures[k].with('i', i, 'j', j), ways[b], slope, pace);
                        if (g.well() && (best == -9 || i + j < best / 10 + best % 10)) {
                            best = 10 * i + j;
                            asked = g.mark(1);
                        }
                    }
                }
                return best;
            });
        }

        /** OFF of each pair, by 10 times SLOPE and LEAD. */
        private int[] offs(int k, int b, int r) {
            bad(not(k, 0, 3) || not(b, 0, 3) || not(r, 0, 5));
            found(1, figures[k] == null || ways[b] == null || rows[r] == null);
            found(5, rows[r].length < 2);
            for (int v : rows[r]) {
                found(3, not(v, 0, 99));
            }
            int[] offs = new int[1000];
            for (int n = 0; n < 1000; n++) {
                Figure f = figures[k].with('i', n % 10, 'j', 0);
                Walk w = new Walk(f, ways[b].bare(), n / 10, rows[r][0], 0);
                for (int x = 1; x < rows[r].length; x++) {
                    w.step();
                    offs[n] += w.end == 0 ? Math.abs(w.pace - rows[r][x]) : rows[r][x];
                }
            }
            return offs;
        }

        int limp(int k, int b, int r) {
            return call(() -> {
                int[] offs = offs(k, b, r);
                asked = Arrays.stream(offs).min().getAsInt();
                for (int n = 0; true; n++) {
                    if (offs[n] == asked) {
                        return n;
                    }
                }
            });
        }

        private int fraction(int part, int whole) {
            upper = part;
            lower = whole;
            for (int by = whole; by > 1; by--) {
                if (upper % by == 0 && lower % by == 0) {
                    upper /= by;
                    lower /= by;
                }
            }
            return whole;
        }

        int odds(int k, int b, int r) {
            return call(() -> {
                int[] offs = offs(k, b, r);
                int least = Arrays.stream(offs).min().getAsInt();
                int all = 0;
                int led = 0;
                for (int n = 0; n < 1000; n++) {
                    all += offs[n] == least ? 1 : 0;
                    led += offs[n] == least && n % 10 != 0 ? 1 : 0;
                }
                return fraction(led, all);
            });
        }

        int part(int k, int b, int pace, int which) {
            return call(() -> {
                pair(k, b, 0, pace, not(which, 0, 3));
                int as = span(figures[k], ways[b], pace);
                asked = span(figures[k].with("wrhl".charAt(which), 1), ways[b], pace);
                return 100 + as - asked;
            });
        }

        int made(int k, int b, int slope, int pace) {
            return call(() -> {
                pair(k, b, slope, pace, false);
                int all = 0;
                int well = 0;
                for (int w = 1; w <= 9; w++) {
                    for (int r = 1; r <= 9; r++) {
                        for (int h = 1; h <= 9; h++) {
                            Figure f = figures[k];
                            if (Math.abs(w - f.get('w')) < 2 && Math.abs(r - f.get('r')) < 2 && Math.abs(h - f.get('h')) < 2) {
                                all++;
                                well += new Going(f.with('w', w, 'r', r, 'h', h), ways[b], slope, pace).well() ? 1 : 0;
                            }
                        }
                    }
                }
                return fraction(well, all);
            });
        }

        int would(int k, int b, int slope, int pace) {
            return call(() -> {
                pair(k, b, slope, pace, false);
                spent(figures[k].untold.size() > 3);
                List<Integer> found = new ArrayList<>();
                for (int n = 1111; n <= 9999; n++) {
                    Figure f = figures[k].with('w', n / 1000, 'r', n / 100 % 10, 'h', n / 10 % 10, 'l', n % 10);
                    boolean fits = !("" + n).contains("0");
                    for (char c : "wrhl".toCharArray()) {
                        fits &= f.untold.contains(c) || f.get(c) == figures[k].get(c);
                    }
                    if (fits && new Going(f, ways[b], slope, pace).well()) {
                        found.add(n);
                    }
                }
                asked = found.isEmpty() ? -9 : found.get(0);
                return found.size();
            });
        }

        int yard(int k, int b, int slope, int pace, int d) {
            return call(() -> {
                pair(k, b, slope, pace, not(d, 1, 2000));
                Walk w = new Walk(figures[k], ways[b].bare(), slope, pace, 0);
                while (w.steps < 400 && w.went < d) {
                    if (!w.step()) {
                        return -9;
                    }
                }
                if (w.went < d) {
                    return -9;
                }
                asked = w.lost;
                return w.steps;
            });
        }

        int push(int k, int b, int pace) {
            return call(() -> {
                pair(k, b, 0, pace, false);
                int each = -9;
                int alone = -9;
                for (int v = 99; v >= 1; v--) {
                    Figure f = figures[k];
                    Figure one = f.with('i', f.get('i') + v);
                    Figure two = one.with('j', f.get('j') + v);
                    each = new Going(two, ways[b], 0, pace).well() ? v : each;
                    int kind = new Going(one, ways[b], 0, pace).kind;
                    alone = kind != 4 && kind != 5 ? v : alone;
                }
                asked = each == -9 ? asked : alone;
                return each;
            });
        }

        int bears(int k, int b, int slope, int pace, int t) {
            return call(() -> {
                pair(k, b, slope, pace, not(t, 0, 99));
                int most = -9;
                for (int d = 0; d <= 99; d++) {
                    Way w = ways[b].bare();
                    w.bumps.add(new int[] {t, d});
                    Walk walk = new Walk(figures[k], w, slope, pace, 0);
                    for (int n = 0; n < 200; n++) {
                        walk.step();
                    }
                    if (d == 0 && walk.end != 0) {
                        return -9;
                    }
                    most = walk.end == 0 ? d : most;
                }
                return most;
            });
        }

        int meets(int k, int other, int b, int slope, int pace) {
            return call(() -> {
                bad(not(other, 0, 3));
                pair(k, b, slope, pace, false);
                found(1, figures[other] == null);
                Walk one = new Walk(figures[k], ways[b].bare(), slope, pace, 0);
                Walk two = new Walk(figures[other], ways[b].bare(), slope, pace, 0);
                for (int n = 1; n <= 400; n++) {
                    one.step();
                    two.step();
                    if (one.end == 0 && two.end == 0 && one.pace == two.pace) {
                        return n;
                    }
                }
                return -9;
            });
        }

        int asked() {
            return asked;
        }

        long upper() {
            return upper;
        }

        long lower() {
            return lower;
        }

        private static int there(Object[] all) {
            return (int) Arrays.stream(all).filter(o -> o != null).count();
        }

        int count(int what) {
            int drawings = (int) Arrays.stream(figures).filter(f -> f != null && !f.untold.isEmpty()).count();
            int[] counts = {there(figures), there(ways), drawings, walk == null ? 0 : walk.steps, there(kept),
                there(rows), there(texts)};
            return not(what, 0, 6) ? -1 : counts[what];
        }

        int finding() {
            return finding;
        }

        int findings(int f) {
            return not(f, 1, 5) ? -1 : counts[f];
        }

        long digest() {
            List<Integer> all = new ArrayList<>();
            for (int n = 0; n <= 6; n++) {
                all.add(count(n));
            }
            for (Figure f : figures) {
                Arrays.stream(f == null ? new int[] {-1} : aboutAll(f)).forEach(all::add);
            }
            for (Way w : ways) {
                all.add(w == null ? -1 : w.rub);
                for (int n = 0; n < 100 && w != null; n++) {
                    all.add(w.bumpsAt(n));
                }
            }
            Arrays.stream(walk == null ? new int[] {-1} : walk.all()).forEach(all::add);
            for (int[] row : rows) {
                all.add(row == null ? -1 : row.length);
                Arrays.stream(row == null ? new int[0] : row).forEach(all::add);
            }
            for (byte[] text : texts) {
                all.add(text == null ? -1 : text.length);
                for (int n = 0; text != null && n < text.length; n++) {
                    all.add((int) text[n]);
                }
            }
            long h = 17;
            for (int v : all) {
                h = 31 * h + v;
            }
            return h;
        }
    }
}
