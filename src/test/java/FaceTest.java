import java.io.IOException;
import java.lang.reflect.Constructor;
import java.lang.reflect.Field;
import java.lang.reflect.Method;
import java.lang.reflect.Modifier;
import java.nio.file.Files;
import java.nio.file.Path;
import java.util.ArrayList;
import java.util.List;
import java.util.TreeSet;
import java.util.regex.Matcher;
import java.util.regex.Pattern;

/** The face is the document's: its constants, its constructor and its methods, and nothing else that is not private. */
public final class FaceTest {
    public static void main(String[] args) throws IOException {
        Check.due("the face", String.join("\n", documented()), String.join("\n", built()));
        Check.due("the class is final", true, Modifier.isFinal(FranchiseLedger.class.getModifiers()));
        for (Class<?> inside : FranchiseLedger.class.getDeclaredClasses()) {
            int modifiers = inside.getModifiers();
            Check.due(inside.getName() + " is static and not public", true,
                    Modifier.isStatic(modifiers) && !Modifier.isPublic(modifiers) && !Modifier.isProtected(modifiers));
        }
        Check.end();
    }

    private static TreeSet<String> documented() throws IOException {
        String document = Files.readString(Path.of("../shared/DOC.md"));
        int start = document.indexOf("public final class FranchiseLedger {");
        String face = document.substring(document.indexOf('{', start) + 1, document.indexOf("```", start));
        TreeSet<String> members = new TreeSet<>();
        for (String line : face.split("\n")) {
            String member = line.trim().replaceAll(";$", "");
            if (member.startsWith("public")) {
                members.add(withoutNames(member));
            }
        }
        return members;
    }

    private static String withoutNames(String member) {
        Matcher parameters = Pattern.compile("\\(([^)]*)\\)").matcher(member);
        if (!parameters.find()) {
            return member;
        }
        List<String> types = new ArrayList<>();
        for (String parameter : parameters.group(1).split(", ")) {
            types.add(parameter.split(" ")[0]);
        }
        return parameters.replaceFirst("(" + String.join(", ", types) + ")");
    }

    private static TreeSet<String> built() {
        TreeSet<String> members = new TreeSet<>();
        for (Field field : FranchiseLedger.class.getDeclaredFields()) {
            if (!Modifier.isPrivate(field.getModifiers())) {
                members.add(Modifier.toString(field.getModifiers()) + " " + field.getType().getName() + " "
                        + field.getName() + " = " + valueOf(field));
            }
        }
        for (Constructor<?> constructor : FranchiseLedger.class.getDeclaredConstructors()) {
            members.add(described(Modifier.toString(constructor.getModifiers()), "FranchiseLedger",
                    constructor.getParameterTypes(), constructor.getExceptionTypes()));
        }
        for (Method method : FranchiseLedger.class.getDeclaredMethods()) {
            if (!Modifier.isPrivate(method.getModifiers())) {
                members.add(described(Modifier.toString(method.getModifiers()) + " " + method.getReturnType().getName(),
                        method.getName(), method.getParameterTypes(), method.getExceptionTypes()));
            }
        }
        return members;
    }

    private static String described(String before, String name, Class<?>[] parameters, Class<?>[] exceptions) {
        String text = before + " " + name + "(" + names(parameters) + ")";
        return exceptions.length == 0 ? text : text + " throws " + names(exceptions);
    }

    private static String names(Class<?>[] classes) {
        List<String> names = new ArrayList<>();
        for (Class<?> each : classes) {
            names.add(each.getSimpleName());
        }
        return String.join(", ", names);
    }

    private static String valueOf(Field field) {
        try {
            return String.valueOf(field.get(null));
        } catch (IllegalAccessException e) {
            return "not to be read";
        }
    }
}
