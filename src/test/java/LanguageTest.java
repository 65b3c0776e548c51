import java.io.IOException;
import java.lang.reflect.Field;
import java.lang.reflect.Method;
import java.lang.reflect.Modifier;
import java.nio.file.Files;
import java.nio.file.Path;
import java.util.ArrayList;
import java.util.HashSet;
import java.util.List;
import java.util.Set;

/** What can be seen of ../shared/LANGUAGE.md without a reader: the face, the library, the lengths. */
public final class LanguageTest {
    private static final Check check = new Check("LanguageTest");
    private static final String[] FORBIDDEN = {"->", "::", "catch", "finally", "synchronized", "assert", "static {", "instanceof",
        "Exact(", "System.", "Random", "Thread", "protected", "@", "\t", "double", "float"};
    private static final String FACE = "feed text fault miles way weight base proviso ticket coupon share carried rounds left straight "
        + "other without matters harmed fly endorse refund clear undo bill net cleared payments payment wouldEndorse cheapest carrier "
        + "perMile ranked most may money count";

    public static void main(String[] args) throws IOException {
        List<String> lines = Files.readAllLines(Path.of("src/main/java/Prorates.java"));
        words(lines);
        methodLengths(lines);
        face();
        namesInside();
        check.end();
    }

    private static void words(List<String> lines) {
        for (String line : lines) {
            for (String word : FORBIDDEN) {
                check.due(word + " in: " + line.strip(), line.contains(word) ? 1 : 0, 0);
            }
            boolean made = line.matches(".*\\bnew \\w+[(\\[].*") && !line.matches(" +private .* = new .*;") && !line.contains("throw new ");
            check.due("made by a call: " + line, made ? 1 : 0, 0);
            boolean imported = line.startsWith("import ") && !line.equals("import java.util.NoSuchElementException;");
            check.due("an import: " + line, imported ? 1 : 0, 0);
            check.due("a sign beyond 127 in: " + line, line.chars().allMatch(c -> c < 128) ? 0 : 1, 0);
        }
    }

    private static void methodLengths(List<String> lines) {
        int start = -1;
        for (int i = 0; i < lines.size(); i++) {
            String line = lines.get(i);
            if (line.matches(" {4,8}(private |public ).*\\) (throws .*)?\\{")) {
                start = i;
            }
            if (start >= 0 && line.matches(" {4,8}}")) {
                check.due("too long: " + lines.get(start).strip(), Math.max(i - start, 60), 60);
                start = -1;
            }
        }
    }

    private static void face() {
        Set<String> face = new HashSet<>(List.of(FACE.split(" ")));
        int seen = 0;
        for (Method m : Prorates.class.getDeclaredMethods()) {
            boolean inFace = face.contains(m.getName());
            seen += inFace ? 1 : 0;
            check.due("public: " + m, Modifier.isPublic(m.getModifiers()) ? 1 : 0, inFace ? 1 : 0);
            check.due("private: " + m, Modifier.isPrivate(m.getModifiers()) ? 1 : 0, inFace ? 0 : 1);
        }
        check.due("methods of the face", seen, face.size());
        for (Field f : Prorates.class.getDeclaredFields()) {
            check.due("private: " + f, Modifier.isPrivate(f.getModifiers()) ? 0 : 1, f.getName().equals("NONE") ? 1 : 0);
        }
    }

    private static void namesInside() {
        Set<String> face = new HashSet<>(List.of(FACE.split(" ")));
        List<Class<?>> inside = new ArrayList<>(List.of(Prorates.class.getDeclaredClasses()));
        check.due("too many classes", Math.max(inside.size(), 11), 11);
        for (Class<?> c : inside) {
            int fields = 0;
            check.due("static: " + c, Modifier.isStatic(c.getModifiers()) ? 1 : 0, 1);
            for (Method m : c.getDeclaredMethods()) {
                check.due("a name of the face: " + m, face.contains(m.getName()) ? 1 : 0, 0);
                check.due("too many parameters: " + m, Math.max(m.getParameterCount(), 7), 7);
            }
            for (Field f : c.getDeclaredFields()) {
                fields += Modifier.isStatic(f.getModifiers()) ? 0 : 1;
            }
            check.due("too many fields: " + c, Math.max(fields, 20), 20);
        }
    }
}
