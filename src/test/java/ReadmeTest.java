import java.io.IOException;
import java.lang.reflect.Method;
import java.lang.reflect.Modifier;
import java.net.URL;
import java.net.URLClassLoader;
import java.nio.file.Files;
import java.nio.file.Path;
import java.util.ArrayList;
import java.util.List;
import java.util.Map;
import java.util.TreeMap;
import java.util.function.IntSupplier;
import java.util.regex.Matcher;
import java.util.regex.Pattern;
import java.util.stream.Stream;
import javax.tools.ToolProvider;

/**
 * README.md holds: its Java is compiled and run, and each call answers what stands behind it; it shows every call of the face;
 * its tables are those of the document and of the tests.
 */
public final class ReadmeTest {
    private static final Check check = new Check("ReadmeTest");
    private static final Path PAGE = Path.of("README.md");
    /** A call, and behind it what it answers. */
    private static final Pattern SHOWN = Pattern.compile("(\\w.*\\));\\s+// (-?\\d+|NONE|throws \\w+)(: .*)?");
    private static final Pattern ROW = Pattern.compile("\\| `(.*)` \\| .* \\| (\\d+|once) \\|");

    /** What the page shows, by its line. */
    private static final Map<Integer, String> shown = new TreeMap<>();

    private static List<String> page;

    public static void main(String[] args) throws Exception {
        page = Files.readAllLines(PAGE);
        StringBuilder methods = new StringBuilder();
        StringBuilder calls = new StringBuilder();
        for (int i = 0; i < page.size(); i++) {
            if (page.get(i).equals("```java")) {
                int end = endOfBlock(i);
                boolean isMethods = page.get(i + 1).startsWith("static ");
                addLines(isMethods ? methods : calls, !isMethods, i + 1, end);
                i = end;
            }
        }
        int asked = run("public final class ReadmeCalls {\n" + methods + "public static void run(ReadmeTest.Seen seen) {\n" + calls
            + "}\n}\n");
        check.due("calls that were run", asked, shown.size());
        wholeFace();
        linesOfTexts();
        tests();
        check.end();
    }

    /** What the page's calls are handed to as they are run. */
    public interface Seen {
        void call(int line, IntSupplier call);
    }

    private static int endOfBlock(int begin) {
        int end = begin + 1;
        while (end < page.size() && !page.get(end).equals("```")) {
            end++;
        }
        return end;
    }

    /** Each call that has an answer behind it is handed on with its line; one that has none is a fault of the page. */
    private static void addLines(StringBuilder java, boolean areCalls, int from, int end) {
        for (int i = from; i < end; i++) {
            String line = page.get(i);
            Matcher call = SHOWN.matcher(line);
            if (areCalls && call.matches()) {
                shown.put(i + 1, call.group(2));
                java.append("seen.call(").append(i + 1).append(", () -> ").append(call.group(1)).append(");\n");
            } else {
                check.due("answers missing behind: " + line, areCalls && line.matches(".*\\b(x\\.\\w+|tell)\\(.*") ? 1 : 0, 0);
                java.append(line).append('\n');
            }
        }
    }

    /** Compiles and runs the page's Java: how many calls were asked. */
    private static int run(String java) throws Exception {
        int[] asked = {0};
        Seen seen = (line, call) -> {
            asked[0]++;
            String got = answer(call);
            String want = shown.get(line).replace("NONE", "-1");
            check.due("line " + line + ", " + page.get(line - 1).strip() + " (answer: " + got + ")", got.equals(want) ? 1 : 0, 1);
        };
        Path room = Files.createTempDirectory("readme");
        try {
            Path source = Files.writeString(room.resolve("ReadmeCalls.java"), java);
            int fault = ToolProvider.getSystemJavaCompiler().run(null, null, null, "-Xlint:all", "-Werror", "-cp",
                System.getProperty("java.class.path"), "-d", room.toString(), source.toString());
            check.due("the compiler, of the page's Java,", fault, 0);
            if (fault == 0) {
                try (URLClassLoader loader = new URLClassLoader(new URL[] {room.toUri().toURL()})) {
                    loader.loadClass("ReadmeCalls").getMethod("run", Seen.class).invoke(null, seen);
                }
            }
        } finally {
            remove(room);
        }
        return asked[0];
    }

    private static String answer(IntSupplier call) {
        try {
            return Integer.toString(call.getAsInt());
        } catch (RuntimeException e) {
            return "throws " + e.getClass().getSimpleName();
        }
    }

    private static void remove(Path room) throws IOException {
        try (Stream<Path> files = Files.list(room)) {
            for (Path file : files.toList()) {
                Files.delete(file);
            }
        }
        Files.delete(room);
    }

    private static void wholeFace() {
        List<String> calls = new ArrayList<>();
        for (int line : shown.keySet()) {
            calls.add(page.get(line - 1));
        }
        for (Method m : Prorates.class.getDeclaredMethods()) {
            if (Modifier.isPublic(m.getModifiers())) {
                boolean isShown = calls.stream().anyMatch(c -> c.startsWith("x." + m.getName() + "("));
                check.due("shown with an answer: " + m.getName(), isShown ? 1 : 0, 1);
            }
        }
    }

    /** The lines of a text, and how many there may be, are those of the document. */
    private static void linesOfTexts() throws IOException {
        Doc doc = new Doc();
        int rows = 0;
        for (String line : page) {
            Matcher row = ROW.matcher(line);
            if (row.matches()) {
                String form = row.group(1);
                String word = form.substring(0, form.indexOf(' '));
                String most = row.group(2).equals("once") ? word + ": 1 .. 99 (10), once" : word + ", at most " + row.group(2);
                rows++;
                check.due("in the document: " + form, doc.says("Terms 1", form) ? 1 : 0, 1);
                check.due("in the document: " + most, doc.says("Terms 1", most) ? 1 : 0, 1);
            }
        }
        check.due("sorts of lines", rows, 8);
    }

    /** Each test of the project has its row, and each row its test. */
    private static void tests() throws IOException {
        List<String> rows = new ArrayList<>();
        for (String line : page) {
            if (line.startsWith("| `") && line.contains("Test` |")) {
                rows.add(line.substring(3, line.indexOf("` |")) + ".java");
            }
        }
        List<String> files;
        try (Stream<Path> all = Files.list(Path.of("src/test/java"))) {
            files = all.map(f -> f.getFileName().toString()).filter(f -> f.endsWith("Test.java")).toList();
        }
        for (String file : files) {
            check.due("in the table of tests: " + file, rows.contains(file) ? 1 : 0, 1);
        }
        check.due("rows of the table of tests", rows.size(), files.size());
        check.due(".ci/run can be run", Files.isExecutable(Path.of(".ci/run")) ? 1 : 0, 1);
    }
}
