import java.io.DataInputStream;
import java.io.IOException;
import java.io.InputStream;
import java.util.ArrayList;
import java.util.List;
import java.util.regex.Pattern;

/** What the compiled class calls of the Java library stands in ../shared/LANGUAGE.md (rules 4 and 6). */
public final class LibraryTest {
    private static final int UTF8 = 1;
    private static final int LONG = 5;
    private static final int DOUBLE = 6;
    private static final int CLASS = 7;
    private static final int STRING = 8;
    private static final int METHOD = 10;
    private static final int INTERFACE_METHOD = 11;
    private static final int METHOD_HANDLE = 15;
    private static final int METHOD_TYPE = 16;
    private static final int DYNAMIC = 17;
    private static final int INVOKE_DYNAMIC = 18;

    private static final Pattern ALLOWED = Pattern.compile("Object\\.<init>"
            + "|(IllegalState|IllegalArgument|IndexOutOfBounds)Exception\\.<init>"
            + "|String\\.(length|charAt|isEmpty|equals|indexOf|substring|toCharArray)"
            + "|(Integer|Long|Math)\\.(compare|max|min|abs|bitCount|floorDiv|floorMod)"
            + "|System\\.arraycopy|Arrays\\.(copyOf|copyOfRange|fill)");

    private final int[] tags;
    private final int[] firsts;
    private final int[] seconds;
    private final String[] texts;

    /** Reads the constants with which the file of a class begins. */
    private LibraryTest(DataInputStream file) throws IOException {
        file.skipNBytes(8);
        int count = file.readUnsignedShort();
        tags = new int[count];
        firsts = new int[count];
        seconds = new int[count];
        texts = new String[count];
        for (int i = 1; i < count; i++) {
            readConstant(i, file);
            // A long and a double count twice.
            i += tags[i] == LONG || tags[i] == DOUBLE ? 1 : 0;
        }
    }

    private void readConstant(int index, DataInputStream file) throws IOException {
        tags[index] = file.readUnsignedByte();
        switch (tags[index]) {
            case UTF8 -> texts[index] = file.readUTF();
            case CLASS, STRING, METHOD_TYPE -> firsts[index] = file.readUnsignedShort();
            case LONG, DOUBLE -> file.skipNBytes(8);
            case METHOD_HANDLE -> file.skipNBytes(3);
            default -> {
                firsts[index] = file.readUnsignedShort();
                seconds[index] = file.readUnsignedShort();
            }
        }
    }

    private List<String> methods() {
        List<String> methods = new ArrayList<>();
        for (int i = 1; i < tags.length; i++) {
            if (tags[i] == METHOD || tags[i] == INTERFACE_METHOD) {
                methods.add(texts[firsts[firsts[i]]] + "." + texts[firsts[seconds[i]]]);
            }
        }
        return methods;
    }

    public static void main(String[] args) throws IOException {
        List<Class<?>> classes = new ArrayList<>(List.of(FranchiseLedger.class.getDeclaredClasses()));
        classes.add(FranchiseLedger.class);
        int called = 0;
        for (Class<?> each : classes) {
            for (String method : read(each).methods()) {
                if (!method.startsWith("FranchiseLedger")) {
                    String name = method.replaceAll("^java/(lang|util)/", "");
                    Check.due(each.getName() + " calls " + method, true, ALLOWED.matcher(name).matches());
                    called++;
                }
            }
        }
        Check.due("calls of the library have been seen", true, called > 0);
        Check.end();
    }

    private static LibraryTest read(Class<?> each) throws IOException {
        try (InputStream bytes = each.getResourceAsStream(each.getName() + ".class");
                DataInputStream file = new DataInputStream(bytes)) {
            LibraryTest constants = new LibraryTest(file);
            for (int tag : constants.tags) {
                // Lambdas, method references and texts joined by + are made with these.
                Check.due(each.getName() + " has a constant of kind " + tag, false,
                        tag == METHOD_HANDLE || tag == DYNAMIC || tag == INVOKE_DYNAMIC);
            }
            return constants;
        }
    }
}
