import java.io.IOException;
import java.net.URL;
import java.net.URLClassLoader;
import java.nio.file.Files;
import java.nio.file.Path;
import java.util.TreeSet;
import java.util.regex.Matcher;
import java.util.regex.Pattern;

/** The README's calls, compiled as they stand there, answer what stands behind them; it names every call. */
public final class ReadmeTests {
    private static final Pattern CALL = Pattern.compile("(x\\.\\w+\\(.*?\\)); +// (-?\\d+)\\b.*");

    private static int wrong = 0;
    private static int held = 0;

    public static void main(String[] args) throws Exception {
        String readme = Files.readString(Path.of("README.md"));
        run(program(readme));
        holds(held > 20, "only " + held + " calls are held to an answer");
        allCalls(readme);
        System.out.println(wrong == 0 ? "the README's calls answer as it says" : wrong + " places are not as due");
        if (wrong != 0) {
            System.exit(1);
        }
    }

    private static void holds(boolean is, String what) {
        if (!is) {
            wrong++;
            System.out.println(what);
        }
    }

    /** The program that is compiled from the page calls this. */
    public static void due(String call, long got, long want) {
        held++;
        holds(got == want, "README: " + call + " answered " + got + ", it says " + want);
    }

    private static String program(String readme) {
        StringBuilder program = new StringBuilder("public class Page {\n    public static void run() {\n");
        Matcher block = Pattern.compile("(?s)```java\n(.*?)```").matcher(readme);
        while (block.find()) {
            for (String line : block.group(1).split("\n")) {
                Matcher m = CALL.matcher(line);
                if (m.matches()) {
                    program.append("ReadmeTests.due(\"").append(m.group(1)).append("\", ").append(m.group(1));
                    program.append(", ").append(m.group(2)).append("L);\n");
                } else {
                    program.append(line).append("\n");
                }
            }
        }
        return program.append("    }\n}\n").toString();
    }

    private static void run(String program) throws Exception {
        Path dir = Files.createTempDirectory("readme");
        Path file = dir.resolve("Page.java");
        try {
            Files.writeString(file, program);
            String path = System.getProperty("java.class.path");
            int result = new ProcessBuilder("javac", "-cp", path, "-d", dir.toString(), file.toString())
                .inheritIO().start().waitFor();
            holds(result == 0, "the README's code does not compile");
            if (result == 0) {
                try (URLClassLoader loader = new URLClassLoader(new URL[] {dir.toUri().toURL()})) {
                    loader.loadClass("Page").getMethod("run").invoke(null);
                }
            }
        } finally {
            remove(dir);
        }
    }

    private static void remove(Path dir) throws IOException {
        for (String name : new String[] {"Page.java", "Page.class"}) {
            Files.deleteIfExists(dir.resolve(name));
        }
        Files.deleteIfExists(dir);
    }

    private static void allCalls(String readme) {
        TreeSet<String> names = new TreeSet<>();
        for (java.lang.reflect.Method m : DuckWalk.class.getMethods()) {
            if (m.getDeclaringClass() == DuckWalk.class) {
                names.add(m.getName());
            }
        }
        for (String name : names) {
            holds(readme.contains("`" + name + "`"), "the README does not name " + name);
        }
        for (Path test : new Path[] {Path.of("src/test/java"), Path.of("src/test/help")}) {
            for (String file : test.toFile().list()) {
                holds(readme.contains(file.replace(".java", "")), "the README does not name " + file);
            }
        }
    }
}
