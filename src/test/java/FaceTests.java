import java.lang.reflect.Field;
import java.lang.reflect.Method;
import java.lang.reflect.Modifier;
import java.nio.file.Files;
import java.nio.file.Path;
import java.util.Arrays;
import java.util.List;
import java.util.Set;
import java.util.TreeSet;
import java.util.regex.Matcher;
import java.util.regex.Pattern;

/** The public face of the document, and those rules of LANGUAGE.md that can be seen from outside. */
public final class FaceTests {
    private static int wrong = 0;

    private static final List<String> FACE = List.of("int row(int,int)", "int lay(int,int,int)", "int at(int,int)",
        "int tear(int)", "int copy(int,int,int,int,int)", "int mean(int)", "int text(int,int)", "int put(int,int,int)",
        "int fault(int,boolean)", "int walker(int,int)", "int board(int,int)", "int about(int,int)", "int rub(int,int)",
        "int wax(int,int,int)", "int walk(int,int,int,int,int)", "int go(int)", "int told(int)", "int tocks(int,int)",
        "int tilt(int)", "int keep(int)", "int on(int)", "int turns()", "int going(int,int,int,int)",
        "int mark(int,int,int,int,int)", "int lines(int,int,int,int)", "int begins(int,int,int)",
        "int mends(int,int,int,int,int)", "int wide(int,int,int)", "int mend(int,int,int,int)", "int limp(int,int,int)",
        "int odds(int,int,int)", "int part(int,int,int,int)", "int made(int,int,int,int)", "int would(int,int,int,int)",
        "int yard(int,int,int,int,int)", "int push(int,int,int)", "int bears(int,int,int,int,int)",
        "int meets(int,int,int,int,int)", "int asked()", "long upper()", "long lower()", "int count(int)",
        "int finding()", "int findings(int)", "long digest()");

    public static void main(String[] args) throws Exception {
        methods();
        fields();
        insides();
        words();
        System.out.println(wrong == 0 ? "the face is as due" : wrong + " faults of the face");
        if (wrong != 0) {
            System.exit(1);
        }
    }

    private static void holds(boolean is, String what) {
        if (!is) {
            wrong++;
            System.out.println(what);
        }
    }

    private static void methods() {
        Set<String> seen = new TreeSet<>();
        Set<String> open = new TreeSet<>();
        for (Method m : DuckWalk.class.getDeclaredMethods()) {
            if (Modifier.isPublic(m.getModifiers())) {
                String types = Arrays.toString(m.getParameterTypes()).replaceAll("[\\[\\] ]", "");
                seen.add(m.getReturnType() + " " + m.getName() + "(" + types + ")");
                open.add(m.getName());
                holds(!Modifier.isStatic(m.getModifiers()), m + " is static");
            }
        }
        holds(seen.equals(new TreeSet<>(FACE)), "the public methods are " + seen);
        for (Method m : DuckWalk.class.getDeclaredMethods()) {
            if (!m.isSynthetic() && !Modifier.isPublic(m.getModifiers())) {
                holds(Modifier.isPrivate(m.getModifiers()), m + " is not private");
                holds(!open.contains(m.getName()), m + " bears a public name");
            }
        }
        for (Class<?> c : DuckWalk.class.getDeclaredClasses()) {
            for (Method m : c.getDeclaredMethods()) {
                holds(!open.contains(m.getName()), m + " bears a public name");
                holds(m.getParameterCount() <= 7, m + " takes more than seven");
            }
        }
        holds(DuckWalk.class.getConstructors().length == 1, "one constructor");
        holds(DuckWalk.class.getConstructors()[0].getParameterCount() == 0, "a constructor of none");
        holds(Modifier.isFinal(DuckWalk.class.getModifiers()), "the class is final");
    }

    private static void fields() throws Exception {
        String[] names = {"BAD", "FULL", "FINDING", "STATE", "SPENT", "NONE"};
        int[] values = {-1, -2, -3, -4, -6, -9};
        for (int i = 0; i < names.length; i++) {
            holds(DuckWalk.class.getField(names[i]).getInt(null) == values[i], names[i]);
        }
        int own = 0;
        for (Field f : DuckWalk.class.getDeclaredFields()) {
            boolean isStatic = Modifier.isStatic(f.getModifiers());
            own += isStatic ? 0 : 1;
            holds(!isStatic || Modifier.isFinal(f.getModifiers()), f + " is not final");
            holds(Modifier.isPrivate(f.getModifiers()) || Arrays.asList(names).contains(f.getName()), f + " is open");
        }
        holds(own <= 20, "some twenty fields: " + own);
    }

    private static void insides() {
        Class<?>[] insides = DuckWalk.class.getDeclaredClasses();
        holds(insides.length < 12, "some twelve classes: " + insides.length);
        for (Class<?> c : insides) {
            holds(Modifier.isStatic(c.getModifiers()) && !Modifier.isPublic(c.getModifiers()), c + " is static, not public");
        }
    }

    /** The code, its comments and texts left out, has none of the words that rule 6 and others leave out. */
    private static void words() throws Exception {
        String code = Files.readString(Path.of("src/main/java/DuckWalk.java"));
        code = code.replaceAll("(?s)/\\*.*?\\*/", " ").replaceAll("//[^\n]*", " ");
        Matcher m = Pattern.compile("\\b(throw|throws|try|catch|synchronized|assert|package|equals|hashCode|toString"
            + "|Exact|Random|System\\.(?!arraycopy)\\w+|Thread|Object|record|var)\\b|->|::|@|java\\.(?!util\\.Arrays;)").matcher(code);
        while (m.find()) {
            holds(false, "the code has " + m.group());
        }
    }
}
