import java.nio.charset.StandardCharsets;
import java.util.function.LongSupplier;

/** What the tests share: texts for a ledger, and the comparison of answers with what is due. */
final class Check {
    static final String IOOBE = "throws.IndexOutOfBoundsException";
    static final String IAE = "throws.IllegalArgumentException";
    static final String ISE = "throws.IllegalStateException";

    private static int wrong = 0;
    private static String place = "";

    private Check() {
    }

    /** Runs a test whose reports begin with its place in the document. */
    static void within(String where, Runnable test) {
        place = where + ": ";
        test.run();
        place = "";
    }

    static void due(String what, long want, long got) {
        if (got != want) {
            report(what, String.valueOf(want), String.valueOf(got));
        }
    }

    static void due(String what, boolean want, boolean got) {
        if (got != want) {
            report(what, String.valueOf(want), String.valueOf(got));
        }
    }

    static void due(String what, String want, String got) {
        if (!want.equals(got)) {
            report(what, want, got);
        }
    }

    /** The call has to throw exactly this exception. */
    static void dueThrow(String what, String want, LongSupplier call) {
        due(what, want, answer(call));
    }

    /** A number, or the name of the exception behind "throws.". */
    static String answer(LongSupplier call) {
        try {
            return String.valueOf(call.getAsLong());
        } catch (RuntimeException e) {
            return "throws." + e.getClass().getSimpleName();
        }
    }

    static long asLong(boolean answer) {
        return answer ? 1 : 0;
    }

    /** Makes a text of Latin-1 signs the content of the input buffer. */
    static void put(FranchiseLedger ledger, String text) {
        byte[] bytes = text.getBytes(StandardCharsets.ISO_8859_1);
        ledger.truncateInput(0);
        for (int at = 0; at < bytes.length; at += 20) {
            ledger.appendInput(word(bytes, at), word(bytes, at + 4), word(bytes, at + 8), word(bytes, at + 12),
                    word(bytes, at + 16));
        }
        due("length of the text " + text, bytes.length, ledger.truncateInput(bytes.length));
    }

    private static int word(byte[] bytes, int at) {
        int word = 0;
        for (int i = at; i < at + 4; i++) {
            word = word << 8 | (i < bytes.length ? bytes[i] & 255 : 0);
        }
        return word;
    }

    static int load(FranchiseLedger ledger, String text) {
        put(ledger, text);
        return ledger.load();
    }

    static int loadJournal(FranchiseLedger ledger, String text) {
        put(ledger, text);
        return ledger.loadJournal();
    }

    static int find(FranchiseLedger ledger, String name) {
        put(ledger, name);
        return ledger.find();
    }

    /** A ledger with this system, which must be free of errors. */
    static FranchiseLedger ledger(String text) {
        FranchiseLedger ledger = new FranchiseLedger();
        int statements = load(ledger, text);
        if (statements < 0) {
            report("load of " + text, "no error",
                    "error " + ledger.errorCode() + " at " + ledger.errorPosition());
        }
        return ledger;
    }

    static void dueLoadError(String text, int code, int position) {
        FranchiseLedger ledger = new FranchiseLedger();
        due("load of " + text, FranchiseLedger.TEXT_ERROR, load(ledger, text));
        dueError(ledger, text, code, position);
    }

    static void dueJournalError(FranchiseLedger ledger, String text, int code, int position) {
        due("loadJournal of " + text, FranchiseLedger.TEXT_ERROR, loadJournal(ledger, text));
        dueError(ledger, text, code, position);
    }

    private static void dueError(FranchiseLedger ledger, String text, int code, int position) {
        due("errorCode of " + text, code, ledger.errorCode());
        due("errorPosition of " + text, position, ledger.errorPosition());
        due("the buffer is empty after an error", 0, ledger.truncateInput(0));
        due("and stays so", FranchiseLedger.NONE, ledger.truncateInput(1));
    }

    static void report(String what, String want, String got) {
        wrong++;
        System.out.println(place + what + ": due is " + want + ", answered " + got);
    }

    static void end() {
        if (wrong != 0) {
            System.out.println(wrong + " answers are not as due");
            System.exit(1);
        }
    }
}
