import java.io.IOException;
import java.lang.reflect.Field;
import java.lang.reflect.Method;
import java.lang.reflect.Modifier;
import java.nio.file.Files;
import java.nio.file.Path;
import java.util.ArrayList;
import java.util.HashSet;
import java.util.List;
import java.util.Set;
import java.util.regex.Pattern;

/** The rules of ../shared/LANGUAGE.md that can be seen without running the class. */
public final class LanguageTest {
    private static final int MOST_CLASSES = 12;
    private static final int MOST_FIELDS = 20;
    private static final int MOST_PARAMETERS = 7;
    private static final int MOST_LINES = 60;

    public static void main(String[] args) throws IOException {
        List<String> lines = Files.readAllLines(Path.of("src/main/java/FranchiseLedger.java"));
        words(lines);
        objects(lines);
        lengths(lines);
        classes();
        Check.end();
    }

    private static void words(List<String> lines) {
        Pattern ruledOut = Pattern.compile("->|::|\\b(try|catch|finally|synchronized|assert|package|double|float|lambda"
                + "|protected|public class|equals|hashCode|toString|System\\.out|getMessage)\\b|\\w+Exact\\(");
        Pattern thrown = Pattern.compile("throw new (IllegalStateException|IllegalArgumentException"
                + "|IndexOutOfBoundsException)\\(\"[a-z ]+\"\\);");
        for (String line : lines) {
            Check.due("ruled out: " + line, false, ruledOut.matcher(line).find());
            if (line.startsWith("import")) {
                Check.due("imports", "import java.util.Arrays;", line);
            }
            if (line.contains("throw new")) {
                Check.due("a throw: " + line, true, thrown.matcher(line.trim()).matches());
            }
            if (line.contains(" static ") && line.contains("=") && line.endsWith(";")) {
                Check.due("a static field: " + line, true, line.matches(".* static final (int|long) .*"));
            }
        }
    }

    /** All rows are made with the ledger, so that no call makes any. */
    private static void objects(List<String> lines) {
        boolean inConstructor = false;
        for (String line : lines) {
            if (line.contains("public FranchiseLedger()")) {
                inConstructor = true;
            } else if (line.equals("    }")) {
                inConstructor = false;
            }
            if (line.contains("new ") && !line.trim().startsWith("//") && !line.trim().startsWith("/*")) {
                Check.due("a new object: " + line, true, inConstructor || line.contains("throw new")
                        || line.matches(" +(private )?final [\\w\\[\\]]+ \\w+ = new .*"));
            }
        }
    }

    private static void lengths(List<String> lines) {
        int start = 0;
        for (int i = 0; i < lines.size(); i++) {
            String line = lines.get(i);
            if (line.matches(" {4}(public|private) .*\\(.*|        [\\w ]+[\\[\\]]* \\w+\\(.*\\) \\{")) {
                start = i;
            }
            if (line.matches(" {4}}| {8}}")) {
                Check.due("the method at line " + (start + 1) + " is short", true, i - start < MOST_LINES);
            }
        }
    }

    private static void classes() {
        Set<String> face = new HashSet<>();
        for (Method method : FranchiseLedger.class.getDeclaredMethods()) {
            if (Modifier.isPublic(method.getModifiers())) {
                face.add(method.getName());
            }
        }
        List<Class<?>> all = new ArrayList<>(List.of(FranchiseLedger.class.getDeclaredClasses()));
        all.add(FranchiseLedger.class);
        Check.due("at most " + MOST_CLASSES + " classes", true, all.size() <= MOST_CLASSES);
        for (Class<?> each : all) {
            int fields = 0;
            for (Field field : each.getDeclaredFields()) {
                fields += Modifier.isStatic(field.getModifiers()) ? 0 : 1;
            }
            Check.due("fields of " + each.getName() + ": " + fields, true, fields <= MOST_FIELDS);
            for (Method method : each.getDeclaredMethods()) {
                Check.due("parameters of " + method, true, method.getParameterCount() <= MOST_PARAMETERS);
                Check.due(method + " bears a name of the face", false,
                        !Modifier.isPublic(method.getModifiers()) && face.contains(method.getName()));
            }
        }
    }
}
