import java.io.IOException;
import java.nio.file.Files;
import java.nio.file.Path;
import java.util.ArrayList;
import java.util.List;
import java.util.TreeSet;
import java.util.regex.Matcher;
import java.util.regex.Pattern;
import java.util.stream.Stream;

/** No sentence of the document's Terms and promises is without a test that quotes it. */
public final class DocumentTests {
    private static final Pattern QUOTE = Pattern.compile("Due\\.says\\((\\d+),\\s*\"((?:[^\"\\\\]|\\\\.)*)\"\\)");

    private static int wrong = 0;

    public static void main(String[] args) throws IOException {
        Path at = Path.of("../shared/DOC.md");
        if (!Files.exists(at)) {
            System.out.println("the document is not at hand: nothing is looked up");
            return;
        }
        String document = Files.readString(at);
        boolean[] quoted = new boolean[document.length()];
        TreeSet<Integer> promises = new TreeSet<>();
        for (String[] quote : quotes()) {
            mark(document, quoted, Integer.parseInt(quote[0]), quote[1]);
            promises.add(Integer.parseInt(quote[0]));
        }
        for (int promise = 1; promise <= 46; promise++) {
            holds(promises.contains(promise), "no test quotes promise " + promise);
        }
        leftOut(document, quoted);
        System.out.println(wrong == 0 ? "every sentence is quoted by a test" : wrong + " places have no test");
        if (wrong != 0) {
            System.exit(1);
        }
    }

    private static void holds(boolean is, String what) {
        if (!is) {
            wrong++;
            System.out.println(what);
        }
    }

    private static List<String[]> quotes() throws IOException {
        List<String[]> all = new ArrayList<>();
        try (Stream<Path> files = Files.list(Path.of("src/test/java"))) {
            for (Path file : files.filter(f -> f.toString().endsWith(".java")).sorted().toList()) {
                Matcher m = QUOTE.matcher(Files.readString(file));
                while (m.find()) {
                    all.add(new String[] {m.group(1), m.group(2)});
                }
            }
        }
        return all;
    }

    /** Words of promise n are looked for in its own part alone: "BAD; NOTHING." stands in many of them. */
    private static void mark(String document, boolean[] quoted, int promise, String words) {
        int from = promise == 0 ? 0 : document.indexOf("## Promise " + promise + ":");
        int to = promise == 0 ? document.indexOf("## Promise 1:") : end(document, from);
        int at = from < 0 ? -1 : document.indexOf(words, from);
        holds(at >= 0 && at + words.length() <= to, "promise " + promise + " does not say: " + words);
        while (at >= 0 && at + words.length() <= to) {
            for (int i = at; i < at + words.length(); i++) {
                quoted[i] = true;
            }
            at = document.indexOf(words, at + 1);
        }
    }

    private static int end(String document, int from) {
        int next = document.indexOf("\n## ", from + 1);
        return next < 0 ? document.length() : next;
    }

    /** What is left between the quotes: headings, signatures and marks are no sentences. */
    private static void leftOut(String document, boolean[] quoted) {
        int begin = document.indexOf("## Terms");
        int end = document.indexOf("## Not promised");
        holds(begin >= 0 && end > begin, "the document has other parts than it had");
        if (begin < 0 || end <= begin) {
            return;
        }
        StringBuilder rest = new StringBuilder();
        for (int i = begin; i < end; i++) {
            rest.append(quoted[i] && document.charAt(i) != '\n' ? '|' : document.charAt(i));
        }
        String bare = rest.toString()
            .replaceAll("(?m)^## .*$", "")
            .replaceAll("(?m)^Ahead of the calls .*$", "")
            .replaceAll("(?m)^```.*$", "")
            .replaceAll("(?m)^======== \\d ", "")
            .replaceAll("(?m)^`(int|long|DuckWalk)[^`]*`:", "");
        for (String left : bare.split("[|\n]+")) {
            boolean isMark = !Pattern.compile("\\w").matcher(left).find();
            holds(isMark, "no test quotes: " + left.strip());
        }
    }
}
