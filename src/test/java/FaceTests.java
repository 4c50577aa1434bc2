import com.sun.management.ThreadMXBean;
import java.lang.management.ManagementFactory;
import java.lang.reflect.Array;
import java.lang.reflect.Field;
import java.lang.reflect.Method;
import java.lang.reflect.Modifier;
import java.nio.file.Files;
import java.nio.file.Path;
import java.util.ArrayDeque;
import java.util.ArrayList;
import java.util.Arrays;
import java.util.IdentityHashMap;
import java.util.List;
import java.util.Set;
import java.util.TreeSet;
import java.util.regex.Matcher;
import java.util.regex.Pattern;

/** The public face of the document, and those rules of LANGUAGE.md that can be seen from outside. */
public final class FaceTests {
    private static int wrong = 0;

    private static final List<String> FACE = List.of("int row(int,int)", "int lay(int,int,int)", "int at(int,int)",
        "int tear(int)", "int copy(int,int,int,int,int)", "int mean(int)", "int text(int,int)", "int put(int,int,int)",
        "int fault(int,boolean)", "int walker(int,int)", "int board(int,int)", "int about(int,int)", "int rub(int,int)",
        "int wax(int,int,int)", "int walk(int,int,int,int,int)", "int go(int)", "int told(int)", "int tocks(int,int)",
        "int tilt(int)", "int keep(int)", "int on(int)", "int turns()", "int going(int,int,int,int)",
        "int mark(int,int,int,int,int)", "int lines(int,int,int,int)", "int begins(int,int,int)",
        "int mends(int,int,int,int,int)", "int wide(int,int,int)", "int mend(int,int,int,int)", "int limp(int,int,int)",
        "int odds(int,int,int)", "int part(int,int,int,int)", "int made(int,int,int,int)", "int would(int,int,int,int)",
        "int yard(int,int,int,int,int)", "int push(int,int,int)", "int bears(int,int,int,int,int)",
        "int meets(int,int,int,int,int)", "int asked()", "long upper()", "long lower()", "int count(int)",
        "int finding()", "int findings(int)", "long digest()");

    public static void main(String[] args) throws Exception {
        methods();
        fields();
        documentsFace();
        insides();
        words();
        lengths();
        roomOfAnObject();
        roomOfCalls();
        System.out.println(wrong == 0 ? "the face is as due" : wrong + " faults of the face");
        if (wrong != 0) {
            System.exit(1);
        }
    }

    private static void holds(boolean is, String what) {
        if (!is) {
            wrong++;
            System.out.println(what);
        }
    }

    private static void methods() {
        Set<String> seen = new TreeSet<>();
        Set<String> open = new TreeSet<>();
        for (Method m : DuckWalk.class.getDeclaredMethods()) {
            if (Modifier.isPublic(m.getModifiers())) {
                String types = Arrays.toString(m.getParameterTypes()).replaceAll("[\\[\\] ]", "");
                seen.add(m.getReturnType() + " " + m.getName() + "(" + types + ")");
                open.add(m.getName());
                holds(!Modifier.isStatic(m.getModifiers()), m + " is static");
            }
        }
        holds(seen.equals(new TreeSet<>(FACE)), "the public methods are " + seen);
        for (Method m : DuckWalk.class.getDeclaredMethods()) {
            if (!m.isSynthetic() && !Modifier.isPublic(m.getModifiers())) {
                holds(Modifier.isPrivate(m.getModifiers()), m + " is not private");
                holds(!open.contains(m.getName()), m + " bears a public name");
            }
        }
        for (Class<?> c : DuckWalk.class.getDeclaredClasses()) {
            for (Method m : c.getDeclaredMethods()) {
                holds(!open.contains(m.getName()), m + " bears a public name");
                holds(m.getParameterCount() <= 7, m + " takes more than seven");
            }
        }
        holds(DuckWalk.class.getConstructors().length == 1, "one constructor");
        holds(DuckWalk.class.getConstructors()[0].getParameterCount() == 0, "a constructor of none");
        holds(Modifier.isFinal(DuckWalk.class.getModifiers()), "the class is final");
    }

    private static void fields() throws Exception {
        String[] names = {"BAD", "FULL", "FINDING", "STATE", "SPENT", "NONE"};
        int[] values = {-1, -2, -3, -4, -6, -9};
        for (int i = 0; i < names.length; i++) {
            holds(DuckWalk.class.getField(names[i]).getInt(null) == values[i], names[i]);
        }
        int own = 0;
        for (Field f : DuckWalk.class.getDeclaredFields()) {
            boolean isStatic = Modifier.isStatic(f.getModifiers());
            own += isStatic ? 0 : 1;
            holds(!isStatic || Modifier.isFinal(f.getModifiers()), f + " is not final");
            holds(Modifier.isPrivate(f.getModifiers()) || Arrays.asList(names).contains(f.getName()), f + " is open");
        }
        holds(own <= 20, "some twenty fields: " + own);
    }

    /** What the document's face says, line by line: it and no more. */
    private static void documentsFace() throws Exception {
        Path at = Path.of("../shared/DOC.md");
        if (!Files.exists(at)) {
            System.out.println("the document is not at hand: its face is not looked up");
            return;
        }
        String document = Files.readString(at);
        int from = document.indexOf("public final class DuckWalk {");
        int to = document.indexOf("\n}", from);
        holds(from >= 0 && to > from, "the document has no face");
        if (from < 0 || to < from) {
            return;
        }
        List<String> face = new ArrayList<>();
        for (String line : document.substring(from, to).split("\n")) {
            Matcher m = Pattern.compile("    public (int|long) (\\w+)\\((.*)\\);").matcher(line);
            if (m.matches()) {
                face.add(m.group(1) + " " + m.group(2) + "(" + m.group(3).replaceAll("(int|boolean) \\w+(, )?", "$1,").replaceAll(",$", "") + ")");
            } else {
                holds(line.contains("class DuckWalk") || line.equals("    public DuckWalk();") || line.equals(
                    "    public static final int BAD = -1, FULL = -2, FINDING = -3, STATE = -4, SPENT = -6, NONE = -9;"),
                    "the document's face has also " + line);
            }
        }
        holds(face.equals(FACE), "the document's face is " + face);
    }

    private static void insides() {
        Class<?>[] insides = DuckWalk.class.getDeclaredClasses();
        holds(insides.length < 12, "some twelve classes: " + insides.length);
        for (Class<?> c : insides) {
            holds(Modifier.isStatic(c.getModifiers()) && !Modifier.isPublic(c.getModifiers()), c + " is static, not public");
        }
    }

    /** The code, its comments and texts left out, has none of the words that rule 6 and others leave out. */
    private static void words() throws Exception {
        String code = Files.readString(Path.of("src/main/java/DuckWalk.java"));
        code = code.replaceAll("(?s)/\\*.*?\\*/", " ").replaceAll("//[^\n]*", " ");
        Matcher m = Pattern.compile("\\b(throw|throws|try|catch|synchronized|assert|package|equals|hashCode|toString"
            + "|Exact|Random|System\\.(?!arraycopy)\\w+|Thread|Object|record|var)\\b|->|::|@|java\\.(?!util\\.Arrays;)").matcher(code);
        while (m.find()) {
            holds(false, "the code has " + m.group());
        }
    }

    /** Rule 11: methods stay short; in this file a method's head and its end stand alone, four or eight deep. */
    private static void lengths() throws Exception {
        List<String> lines = Files.readAllLines(Path.of("src/main/java/DuckWalk.java"));
        String indent = null;
        int begun = 0;
        for (int n = 0; n < lines.size(); n++) {
            String line = lines.get(n);
            Matcher m = Pattern.compile("( {4}| {8})\\w[\\w\\[\\] ]*\\([^;=]*\\) \\{").matcher(line);
            if (indent == null && m.matches()) {
                indent = m.group(1);
                begun = n;
            } else if (indent != null && line.equals(indent + "}")) {
                holds(n - begun < 60, "from line " + (begun + 1) + " on a method of " + (n - begun + 1) + " lines");
                indent = null;
            }
            holds(line.chars().allMatch(c -> c >= 32 && c < 127), "line " + (n + 1) + " has another sign");
        }
        holds(indent == null, "a method without an end");
    }

    /** All runs live in one room of 600,000 objects, 7.3 million fields: an object takes few of them. */
    private static void roomOfAnObject() throws Exception {
        IdentityHashMap<Object, Boolean> seen = new IdentityHashMap<>();
        ArrayDeque<Object> open = new ArrayDeque<>();
        open.add(new DuckWalk());
        long places = 0;
        while (!open.isEmpty()) {
            Object x = open.remove();
            if (seen.put(x, true) != null) {
                continue;
            }
            if (x.getClass().isArray()) {
                int size = Array.getLength(x);
                places += size;
                for (int i = 0; i < size && !x.getClass().getComponentType().isPrimitive(); i++) {
                    open.add(Array.get(x, i));
                }
                continue;
            }
            for (Field f : x.getClass().getDeclaredFields()) {
                if (!Modifier.isStatic(f.getModifiers())) {
                    places++;
                    f.setAccessible(true);
                    if (!f.getType().isPrimitive()) {
                        open.add(f.get(x));
                    }
                }
            }
        }
        holds(seen.size() < 150, "an object is made of " + seen.size() + " objects");
        holds(places < 4000, "an object has " + places + " fields and elements");
    }

    /** Rule 12: what is made is made by the constructor; no call makes an object. */
    private static void roomOfCalls() {
        ThreadMXBean threads = (ThreadMXBean) ManagementFactory.getThreadMXBean();
        DuckWalk x = Due.full();
        long sum = dearCalls(x);
        long before = threads.getCurrentThreadAllocatedBytes();
        for (int n = 0; n < 12; n++) {
            sum += dearCalls(x);
        }
        long made = threads.getCurrentThreadAllocatedBytes() - before;
        holds(made < 100, "calls have made " + made + " bytes, " + sum);
    }

    private static long dearCalls(DuckWalk x) {
        long sum = x.row(0, 60) + x.lay(0, 0, 5) + x.at(0, 0) + x.tear(5) + x.row(5, 3) + x.copy(0, 0, 0, 1, 9) + x.mean(0);
        sum += x.text(3, 80) + x.put(3, 0, 'b') + x.fault(3, true) + x.fault(3, false) + x.walker(3, 0) + x.board(3, 1);
        sum += x.about(2, 6) + x.rub(1, 3) + x.wax(0, 0, 0) + x.walk(0, 0, 20, 10, 0) + x.go(400) + x.told(6);
        sum += x.tocks(60, 4) + x.tilt(20) + x.keep(2) + x.on(2) + x.turns() + x.going(0, 0, 20, 10);
        sum += x.mark(0, 0, 20, 10, 1) + x.lines(0, 0, 10, 1) + x.begins(0, 0, 20) + x.mends(0, 0, 20, 10, 1);
        sum += x.wide(0, 0, 10) + x.mend(0, 0, 60, 10) + x.limp(0, 0, 4) + x.odds(0, 0, 4) + x.part(0, 0, 10, 0);
        sum += x.made(0, 0, 20, 10) + x.would(2, 0, 20, 10) + x.yard(0, 0, 20, 10, 2000) + x.push(0, 0, 99);
        sum += x.bears(0, 0, 20, 10, 99) + x.meets(0, 1, 0, 20, 10) + x.asked() + x.upper() + x.lower() + x.count(2);
        return sum + x.finding() + x.findings(1) + x.digest();
    }
}
