import java.util.function.Supplier;

/** Promises 1 to 11: a new object, the input, reading it, the journal, and what is counted. */
final class InputBoundaries {
    private static final int NONE = FranchiseLedger.NONE;
    private static final int TEXT_ERROR = FranchiseLedger.TEXT_ERROR;
    private static final int[] FAR_OUT = {Integer.MIN_VALUE, Integer.MIN_VALUE + 1, Integer.MAX_VALUE};

    private InputBoundaries() {
    }

    static void test() {
        Sentences.test(1, InputBoundaries::newObject, "Creates a ledger without plans, franchisees and outlets, in month 0, "
                + "with all rates, amounts and the delay 0.");
        Sentences.test(2, InputBoundaries::appendedBytes, "Appends 20 bytes to the input buffer: the four bytes of each "
                + "argument, most significant byte first.", "- `w0`: first four bytes", "- `w1`: next four bytes",
                "- `w2`: next four bytes", "- `w3`: next four bytes", "- `w4`: last four bytes");
        Sentences.test(2, InputBoundaries::fullBuffer, "Returns the new length of the buffer; NONE if it would exceed 1500 "
                + "bytes (then nothing is appended).");
        Sentences.test(3, InputBoundaries::truncating, "Shortens the input buffer to its first bytes.",
                "- `length`: 0 to the current length", "Returns the new length; NONE if length is out of range.");
        Sentences.test(4, InputBoundaries::loading, "Reads the input buffer as the text of a system.",
                "Returns the number of statements; TEXT_ERROR if the text has an error (then only the buffer and the error "
                + "change).");
        Sentences.test(5, InputBoundaries::errorCodes, "Returns the error code of the last load() or loadJournal(), whichever "
                + "was later.", "Returns 1 to 5; 0 if it had no error, or if there was none.");
        Sentences.test(6, InputBoundaries::errorPositions, "Returns the error position of the last load() or loadJournal(), "
                + "whichever was later.", "Returns the position; NONE if it had no error, or if there was none.");
        Sentences.test(7, InputBoundaries::finding, "Finds the franchisee whose name is the whole content of the input "
                + "buffer, and empties the buffer.", "Returns the franchisee; NONE if there is none.");
        Sentences.test(8, InputBoundaries::loadingAJournal, "Reads the input buffer as a journal, which replaces the previous "
                + "one.", "Returns the number of entries; TEXT_ERROR if the text has an error (then only the buffer and the "
                + "error change).");
        Sentences.test(9, InputBoundaries::running, "Executes the next entries of the journal (all that are left, if they are "
                + "fewer), one after the other, and removes them.", "Returns the number of entries that have not failed.");
        Sentences.test(9, InputBoundaries::doing, "An entry does what reportSales(), deliver(), pay(), grant(), campaign(), "
                + "vote() or closeMonth() does.");
        Sentences.test(9, InputBoundaries::failing, "It fails, and changes nothing, where this method would throw an "
                + "exception or return false, NONE or FULL (pay never fails).");
        Sentences.test(9, InputBoundaries::entriesOutOfRange, "- `entries`: 1 to 40",
                "Throws `IllegalArgumentException` if entries is out of range");
        Sentences.test(10, InputBoundaries::counting, "Returns a number of things.", "- `what`: 0 plans, 1 franchisees, 2 "
                + "outlets (closed ones included), 3 entries of the journal", "Returns the number; NONE for any other what.");
        Sentences.test(11, InputBoundaries::months, "Returns the present month.", "Returns 0 to 60.");
    }

    private static void newObject() {
        FranchiseLedger x = new FranchiseLedger();
        Check.due("plans", 0, x.count(0));
        Check.due("franchisees", 0, x.count(1));
        Check.due("outlets", 0, x.count(2));
        Check.due("entries", 0, x.count(3));
        Check.due("month", 0, x.month());
        Check.due("fund", 0, x.fundBalance());
        Check.due("owed", 0, x.totalOwed());
        for (int kind = 0; kind < 3; kind++) {
            Check.due("spent", 0, x.spent(kind));
        }
        for (int cell = 0; cell < 900; cell++) {
            Check.due("owner", NONE, x.owner(cell % 30, cell / 30));
        }
        Check.due("buffer", 0, Sights.bufferLength(x));
        Check.due("as after the load of an empty text", Sights.everything(Ledgers.EMPTY), Sights.everything(() -> {
            FranchiseLedger y = new FranchiseLedger();
            y.load();
            return y;
        }));
    }

    /** Each of the 20 bytes, and the places before and behind it, by the error that it makes among spaces. */
    private static void appendedBytes() {
        for (int place = 0; place < 20; place++) {
            for (int wrong : new int[] {0, 1, 127, 128, 255}) {
                int[] words = {0x20202020, 0x20202020, 0x20202020, 0x20202020, 0x20202020};
                int shift = 24 - place % 4 * 8;
                words[place / 4] ^= (0x20 ^ wrong) << shift;
                FranchiseLedger x = new FranchiseLedger();
                x.appendInput(0x20202020, 0x20202020, 0x20202020, 0x20202020, 0x20202020);
                Check.due("length", 40, x.appendInput(words[0], words[1], words[2], words[3], words[4]));
                Check.due("a wrong byte", TEXT_ERROR, x.load());
                Check.due("its place", 20 + place, x.errorPosition());
            }
        }
        FranchiseLedger x = new FranchiseLedger();
        // "plan", " 10 ", "2999", ";fee", " 1; "
        x.appendInput(0x706c616e, 0x20313020, 0x32393939, 0x3b666565, 0x20313b20);
        Check.due("a text", 2, x.load());
        Check.due("its rate", 2999, x.royalty(0, 10000));
    }

    private static void fullBuffer() {
        FranchiseLedger x = new FranchiseLedger();
        for (int length = 20; length <= 1500; length += 20) {
            Check.due("the new length", length, x.appendInput(0x20202020, 0x20202020, 0x20202020, 0x20202020, 0x20202020));
        }
        Check.due("1520 bytes", NONE, x.appendInput(-1, -1, -1, -1, -1));
        Check.due("the length stays", 1500, Sights.bufferLength(x));
        Check.due("the bytes stay", 0, x.load());
        appendTo(1480, 1500);
        appendTo(1481, NONE);
        appendTo(1499, NONE);
        appendTo(0, 20);
        appendTo(1, 21);
    }

    private static void appendTo(int length, int want) {
        FranchiseLedger x = new FranchiseLedger();
        Check.put(x, " ".repeat(length));
        Check.due("from " + length, want, x.appendInput(0x20202020, 0x20202020, 0x20202020, 0x20202020, 0x2020203f));
        Check.due("the length then", want == NONE ? length : want, Sights.bufferLength(x));
        Check.due("the text then", want == NONE ? 0 : TEXT_ERROR, x.load());
        Check.due("the last byte", want == NONE ? NONE : want - 1, x.errorPosition());
    }

    private static void truncating() {
        FranchiseLedger x = new FranchiseLedger();
        Check.put(x, "fee 5;fee 6;?");
        for (int length : new int[] {-1, 14, 20, 1500, 1501, Integer.MIN_VALUE, Integer.MAX_VALUE}) {
            Check.due("out of range", NONE, x.truncateInput(length));
            Check.due("the length stays", 13, Sights.bufferLength(x));
        }
        Check.due("to the current length", 13, x.truncateInput(13));
        Check.due("to one less", 12, x.truncateInput(12));
        Check.due("the current length is another one now", NONE, x.truncateInput(13));
        Check.due("the first bytes", 2, x.load());
        Check.put(x, "fee 5;fee 6;");
        x.truncateInput(6);
        Check.due("what was cut off is gone", 26, x.appendInput(0x20202020, 0x20202020, 0x20202020, 0x20202020, 0x20202020));
        Check.due("one statement", 1, x.load());
        Check.put(x, "?");
        Check.due("to nothing", 0, x.truncateInput(0));
        Check.due("an empty text", 0, x.load());
        Check.due("nothing to nothing", 0, x.truncateInput(0));
        Ledgers.dueRefused("truncateInput of much more", Ledgers.BUSY, NONE, y -> y.truncateInput(18));
        Ledgers.dueRefused("truncateInput of less than nothing", Ledgers.BUSY, NONE, y -> y.truncateInput(-1));
        Ledgers.dueRefused("truncateInput to its length", Ledgers.BUSY, 17, y -> y.truncateInput(17));
    }

    private static void loading() {
        FranchiseLedger x = new FranchiseLedger();
        Check.due("no statement", 0, Check.load(x, ""));
        Check.due("one", 1, Check.load(x, "fee 5;"));
        Check.due("two", 2, Check.load(x, "fee 5;fee 5;"));
        String[] wrong = {"?", "fee 10000;", "plan 0 0;franchisee a 0 0;area b 0 0 1 1;", Ledgers.fullText() + "plan 1 1;",
            "plan 9 9;franchisee ann 0 9;area ann 0 0 30 30;outlet ann 0 0;outlet ann 0 0;", "plan 7 7;fee 7"};
        for (String text : wrong) {
            dueOnlyReadingChanges(text, 0);
        }
    }

    /** After a text with an error all but the buffer and the error is as it was. */
    private static void dueOnlyReadingChanges(String text, int reader) {
        Supplier<FranchiseLedger> read = () -> {
            FranchiseLedger x = Ledgers.BUSY.get();
            Check.put(x, text);
            Check.due("the text has an error", TEXT_ERROR, reader == 0 ? x.load() : x.loadJournal());
            return x;
        };
        Check.due("the business after " + text, Sights.business(Ledgers.BUSY), Sights.business(read));
        Check.due("the journal after " + text, Sights.journal(Ledgers.BUSY), Sights.journal(read));
        Check.due("the formatted text after " + text, Sights.formatted(Ledgers.BUSY.get()), Sights.formatted(read.get()));
        Check.due("the buffer after " + text, 0, Sights.bufferLength(read.get()));
        Check.due("the error after " + text, true, read.get().errorCode() > 0);
    }

    private static void errorCodes() {
        FranchiseLedger x = new FranchiseLedger();
        Check.due("there was none", 0, x.errorCode());
        String one = "plan 0 0;franchisee a 0 0;";
        String[] wrong = {"?", "fee 10000;", one + "franchisee a 0 0;", Ledgers.fullText() + "plan", one + "outlet a 0 0;"};
        for (int code = 1; code <= 5; code++) {
            Check.load(x, wrong[code - 1]);
            Check.due("code", code, x.errorCode());
            Check.load(x, one);
            Check.due("no error in a load", 0, x.errorCode());
            Check.load(x, wrong[code - 1]);
            Check.loadJournal(x, "close;");
            Check.due("no error in a journal", 0, x.errorCode());
            Check.load(x, wrong[code - 1]);
            Check.find(x, "a");
            x.saveSnapshot(0);
            x.restoreSnapshot(0);
            x.restoreSnapshot(1);
            Check.due("nothing else changes it", code, x.errorCode());
        }
        String[] wrongEntries = {"close", "campaign 0;", "pay zed 1;", "close;".repeat(41)};
        for (int code = 1; code <= 4; code++) {
            Check.loadJournal(x, wrongEntries[code - 1]);
            Check.due("code of a journal", code, x.errorCode());
            Check.load(x, one);
            Check.due("no error in a load behind it", 0, x.errorCode());
        }
    }

    private static void errorPositions() {
        FranchiseLedger x = new FranchiseLedger();
        Check.due("there was none", NONE, x.errorPosition());
        Check.load(x, "?");
        Check.due("the first byte", 0, x.errorPosition());
        Check.find(x, "a");
        Check.due("a find leaves it", 0, x.errorPosition());
        Check.load(x, "fee 5;");
        Check.due("no error", NONE, x.errorPosition());
        Check.load(x, " ".repeat(1499) + "?");
        Check.due("the last byte", 1499, x.errorPosition());
        Check.loadJournal(x, "close;");
        Check.due("no error in a journal", NONE, x.errorPosition());
        Check.loadJournal(x, "close" + " ".repeat(1495));
        Check.due("behind the last byte", 1500, x.errorPosition());
        Check.load(x, "");
        Check.due("no error in an empty text", NONE, x.errorPosition());
    }

    private static void finding() {
        FranchiseLedger x = Check.ledger("plan 0 0;franchisee ab 0 0;franchisee a 0 0;franchisee abcdefghij 0 0;");
        Check.due("the first", 0, Check.find(x, "ab"));
        Check.due("one that begins others", 1, Check.find(x, "a"));
        Check.due("10 letters", 2, Check.find(x, "abcdefghij"));
        String[] others = {"", "b", "abc", "abcdefghi", "abcdefghija", " ab", "ab ", "ab\n", "ab;", "a b", "AB", "ab\u0000",
            "ab" + " ".repeat(1498), "?"};
        for (String text : others) {
            Check.due("find " + text, NONE, Check.find(x, text));
            Check.due("it empties the buffer", 0, Sights.bufferLength(x));
        }
        Check.due("and finds again", 0, Check.find(x, "ab"));
        Check.due("in a new object", NONE, Check.find(new FranchiseLedger(), "ab"));
        Check.load(x, "plan 0 0;franchisee b 0 0;");
        Check.due("a name that was replaced", NONE, Check.find(x, "ab"));
        Check.due("its successor", 0, Check.find(x, "b"));
        Supplier<FranchiseLedger> found = () -> {
            FranchiseLedger y = Ledgers.BUSY.get();
            Check.find(y, "zed");
            return y;
        };
        Check.due("a find that finds nothing changes no business", Sights.business(Ledgers.BUSY), Sights.business(found));
        Check.due("nor the journal", Sights.journal(Ledgers.BUSY), Sights.journal(found));
        Check.due("nor the error", Ledgers.BUSY.get().errorPosition(), found.get().errorPosition());
    }

    private static void loadingAJournal() {
        FranchiseLedger x = Ledgers.BUSY.get();
        Check.due("entries before", 4, x.count(3));
        Check.due("one entry", 1, Check.loadJournal(x, "close;"));
        Check.due("replaces four", 1, x.count(3));
        Check.due("and is run", 1, x.runJournal(40));
        Check.due("40 entries", 40, Check.loadJournal(x, "close;".repeat(40)));
        Check.due("no entry", 0, Check.loadJournal(x, "\n"));
        Check.due("replaces 40", 0, x.count(3));
        String[] wrong = {"?", "sales 16 0;", "pay zed 1;", "close;".repeat(41), "campaign 5;close", "pay ann 1;pay ann 0;"};
        for (String text : wrong) {
            dueOnlyReadingChanges(text, 1);
        }
    }

    private static void running() {
        FranchiseLedger x = Check.ledger("plan 0 0;franchisee a 0 0;");
        Check.due("nothing to run", 0, x.runJournal(40));
        Check.loadJournal(x, "pay a 1;pay a 20;grant a 1;pay a 300;");
        Check.due("one", 1, x.runJournal(1));
        Check.due("the first", -100, x.balance(0));
        Check.due("three are left", 3, x.count(3));
        Check.due("two, of which one fails", 1, x.runJournal(2));
        Check.due("the second", -2100, x.balance(0));
        Check.due("a failed one is removed too", 1, x.count(3));
        Check.due("all that are left", 1, x.runJournal(40));
        Check.due("the last", -32100, x.balance(0));
        Check.due("no more", 0, x.runJournal(1));
        Check.loadJournal(x, "pay a 1;".repeat(40));
        Check.due("39 of 40", 39, x.runJournal(39));
        Check.due("one is left", 1, x.count(3));
        Check.due("two of one", 1, x.runJournal(2));
        Check.due("all 40", -36100, x.balance(0));
    }

    /** An entry and the call that it stands for. */
    private static void dueSame(String entry, Ledgers.Call call) {
        Check.due(entry, Sights.business(() -> {
            FranchiseLedger x = Ledgers.BUSY.get();
            call.on(x);
            Check.loadJournal(x, "");
            return x;
        }), Sights.business(() -> {
            FranchiseLedger x = Ledgers.BUSY.get();
            Check.loadJournal(x, entry);
            Check.due(entry, 1, x.runJournal(1));
            return x;
        }));
    }

    private static void doing() {
        dueSame("sales 1 12;", x -> x.reportSales(1, 1200));
        dueSame("sales 1 0;", x -> x.reportSales(1, 0));
        dueSame("deliver 0 9 3 12;", x -> x.deliver(0, 9, 3, 1200));
        dueSame("pay ann 12;", x -> x.pay(Ledgers.ANN, 1200));
        dueSame("pay cy 12;", x -> x.pay(Ledgers.CY, 1200));
        dueSame("grant ann 12;", x -> Check.asLong(x.grant(Ledgers.ANN, 1200)));
        dueSame("campaign 12;", x -> Check.asLong(x.campaign(1200)));
        dueSame("vote bob 4 yes;", x -> x.vote(Ledgers.BOB, 4, true));
        dueSame("vote bob 4 no;", x -> x.vote(Ledgers.BOB, 4, false));
        dueSame("close;", FranchiseLedger::closeMonth);
    }

    private static void dueFailing(Supplier<FranchiseLedger> state, String entry) {
        Check.due(entry + " changes nothing", Sights.business(() -> {
            FranchiseLedger x = state.get();
            Check.loadJournal(x, "");
            return x;
        }), Sights.business(() -> {
            FranchiseLedger x = state.get();
            Check.loadJournal(x, entry);
            Check.due(entry + " fails", 0, x.runJournal(1));
            Check.due(entry + " is removed", 0, x.count(3));
            return x;
        }));
    }

    private static void failing() {
        String[] entries = {"sales 5 1;", "sales 15 1;", "sales 3 1;", "deliver 5 0 0 1;", "deliver 3 0 0 1;",
            "deliver 0 9 0 100000;", "grant ann 999999;", "grant ed 1;", "grant cy 1;", "grant di 1;", "campaign 999999;",
            "vote ann 0 yes;", "vote bob 2 yes;", "vote bob 1 no;", "vote cy 0 no;"};
        for (String entry : entries) {
            dueFailing(Ledgers.BUSY, entry);
        }
        for (String entry : new String[] {"close;", "sales 0 1;", "deliver 0 0 0 1;"}) {
            dueFailing(Ledgers.OVER, entry);
        }
        FranchiseLedger x = Ledgers.BUSY.get();
        Check.loadJournal(x, "pay ann 999999;pay ann 999999;pay cy 999999;pay di 1;pay ed 1;");
        Check.due("pay never fails", 5, x.runJournal(5));
        FranchiseLedger over = Ledgers.OVER.get();
        Check.loadJournal(over, "pay ann 1;");
        Check.due("nor when all months are closed", 1, over.runJournal(1));
        FranchiseLedger gone = Ledgers.BUSY.get();
        gone.openOutlet(Ledgers.ANN, 0, 0);
        Check.loadJournal(gone, "sales 5 1;sales 5 1;");
        Check.due("an outlet that there is", 1, gone.runJournal(1));
        gone.restoreSnapshot(0);
        Check.due("and is no longer", 0, gone.runJournal(1));
    }

    private static void entriesOutOfRange() {
        for (int entries : new int[] {0, -1, 41, Integer.MIN_VALUE, Integer.MAX_VALUE}) {
            Ledgers.dueRefused("runJournal " + entries, Ledgers.BUSY, Check.IAE, x -> x.runJournal(entries));
            Ledgers.dueRefused("runJournal " + entries, Ledgers.EMPTY, Check.IAE, x -> x.runJournal(entries));
        }
        Check.due("1", 1, Ledgers.BUSY.get().runJournal(1));
        Check.due("40", 4, Ledgers.BUSY.get().runJournal(40));
    }

    private static void counting() {
        FranchiseLedger full = Ledgers.FULL.get();
        Check.due("plans", 4, full.count(0));
        Check.due("franchisees", 8, full.count(1));
        Check.due("outlets", 16, full.count(2));
        Check.due("entries", 0, full.count(3));
        FranchiseLedger busy = Ledgers.BUSY.get();
        Check.due("plans", 2, busy.count(0));
        Check.due("franchisees, of any status", 5, busy.count(1));
        Check.due("outlets, the closed one included", 5, busy.count(2));
        Check.due("entries that are left", 4, busy.count(3));
        Check.due("below", NONE, busy.count(-1));
        Check.due("above", NONE, busy.count(4));
        for (int what : FAR_OUT) {
            Check.due("far out", NONE, busy.count(what));
        }
    }

    private static void months() {
        Check.due("at first", 0, new FranchiseLedger().month());
        Check.due("between", 4, Ledgers.BUSY.get().month());
        Check.due("at last", 60, Ledgers.OVER.get().month());
        FranchiseLedger x = Ledgers.OVER.get();
        Check.load(x, "");
        Check.due("after a load", 0, x.month());
    }
}
