import java.util.ArrayList;
import java.util.List;

/** The description's sentences on errors in a text, and on calls that are refused. */
final class ErrorBoundaries {
    private static final int HERE = Sentences.DESCRIPTION;
    private static final String ONE = "plan 0 0;franchisee a 0 5;area a 0 0 5 5;";
    private static final String TWO = ONE + "franchisee b 0 5;area b 5 0 6 5;";

    private ErrorBoundaries() {
    }

    static void test() {
        Sentences.test(HERE, ErrorBoundaries::firstError, "ERRORS. The first error is reported, from left to right, with a "
                + "code and a position (the index of the first byte of the token concerned, or the length of the text if it "
                + "ends too early);");
        Sentences.test(HERE, ErrorBoundaries::lowestCode, "if several codes apply to a token, the lowest one is reported:");
        Sentences.test(HERE, ErrorBoundaries::syntax, "1 syntax: something that is not a token (also a word or number that "
                + "is too long), or a token that is not allowed at its place");
        Sentences.test(HERE, ErrorBoundaries::range, "2 range: a number outside its range (also a PLAN that does not stand "
                + "before)");
        Sentences.test(HERE, ErrorBoundaries::name, "3 name: a franchisee with the name of an earlier one; a NAME in an area "
                + "or outlet statement that is not the name of an earlier franchisee; a NAME in a journal that is not the "
                + "name of a franchisee");
        Sentences.test(HERE, ErrorBoundaries::limit, "4 limit: the word plan, franchisee or outlet of a fifth plan, a ninth "
                + "franchisee or a 17th outlet; a fifth THRESHOLD; the first word of a 41st entry");
        Sentences.test(HERE, ErrorBoundaries::conflict, "5 conflict: the Y2 of an area that contains a cell of another "
                + "franchisee; the Y of an outlet whose cell does not belong to its franchisee or has an outlet");
        Sentences.test(HERE, ErrorBoundaries::orderOfExceptions, "Exceptions are checked in the order in which a method "
                + "lists them.");
        Sentences.test(HERE, ErrorBoundaries::refused, "A call that throws an exception, or returns false, NONE, "
                + "NOT_ALLOWED, FULL or TEXT_ERROR, changes nothing, except where its description says so.");
    }

    private static void firstError() {
        Check.dueLoadError("fee 10000;fee x;", 2, 4);
        Check.dueLoadError("fee x;fee 10000;", 1, 4);
        Check.dueLoadError("fee 99999 ?", 2, 4);
        Check.dueLoadError("  fee\n 10000", 2, 7);
        Check.dueLoadError("area zed 99 99 99 99;", 3, 5);
        Check.dueLoadError("plan 1001 3001 0 3001", 2, 5);
        Check.dueLoadError(TWO + "area b 4 4 6 6 6;", 5, TWO.length() + 13);
        Check.dueLoadError("fee 5", 1, 5);
        Check.dueLoadError("fee 5 ", 1, 6);
        Check.dueLoadError("fee 5\n\n\n", 1, 8);
        Check.dueLoadError("fee", 1, 3);
        Check.dueLoadError("plan 0 0 1 1", 1, 12);
        Check.dueLoadError("plan 0 0 1", 1, 10);
        Check.dueLoadError("plan 0 0;franchisee", 1, 19);
        Check.dueLoadError("plan 0 0;franchisee a ", 1, 22);
        FranchiseLedger x = Check.ledger(ONE);
        Check.dueJournalError(x, "pay zed 0", 3, 4);
        Check.dueJournalError(x, "close;sales", 1, 11);
        Check.dueJournalError(x, "vote a 4  ", 1, 10);
        Check.dueJournalError(x, "close ", 1, 6);
    }

    private static void lowestCode() {
        String tiers = "plan 0 0 1 1 2 2 3 3 9 4 ";
        Check.dueLoadError(tiers + "10 5;", 4, 25);
        Check.dueLoadError(tiers + "9 5;", 2, 25);
        Check.dueLoadError(tiers + "100000 5;", 2, 25);
        Check.dueLoadError(tiers + "0000010 5;", 1, 25);
        Check.dueLoadError(tiers + "plan", 1, 25);
        Check.dueLoadError(TWO + "area b 4 4 6 4;", 2, TWO.length() + 13);
        Check.dueLoadError(TWO + "area b 4 4 6 31;", 2, TWO.length() + 13);
        Check.dueLoadError(TWO + "area b 4 4 6 x;", 1, TWO.length() + 13);
        Check.dueLoadError(TWO + "outlet b 4 30;", 2, TWO.length() + 11);
        Check.dueLoadError(TWO + "outlet b 4 ;", 1, TWO.length() + 11);
        // A reserved word is no NAME, so it is not allowed there, whether a franchisee had it or not.
        Check.dueLoadError(ONE + "area plan 0 0 1 1;", 1, ONE.length() + 5);
        Check.dueJournalError(Check.ledger(ONE), "pay plan 1;", 1, 4);
        Check.dueJournalError(Check.ledger(ONE), "close;".repeat(40) + "opened;", 1, 240);
        Check.dueJournalError(Check.ledger(ONE), "close;".repeat(40) + "closecloses", 1, 240);
    }

    private static void syntax() {
        Check.dueLoadError("!", 1, 0);
        Check.dueLoadError("franchisees", 1, 0);
        Check.dueLoadError("franchiseea a 0 0;", 1, 0);
        Check.dueLoadError("fee 1234567;", 1, 4);
        Check.dueLoadError("fee 123456;", 2, 4);
        Check.dueLoadError("7;", 1, 0);
        Check.dueLoadError(";", 1, 0);
        Check.dueLoadError("fee;", 1, 3);
        Check.dueLoadError("fee five;", 1, 4);
        Check.dueLoadError("fee 5 fee 5;", 1, 6);
        Check.dueLoadError("fee 5;six;", 1, 6);
        Check.dueLoadError("close;", 1, 0);
        Check.dueLoadError(ONE + "outlet 5 5 5;", 1, ONE.length() + 7);
        Check.dueLoadError(ONE + "outlet a a 5;", 1, ONE.length() + 9);
        Check.dueLoadError(ONE + "area a 0 0 1 ;", 1, ONE.length() + 13);
        for (String statement : new String[] {"plan 0 0;", "franchisee b 0 0;", "area a 0 0 1 1;", "outlet a 0 0;",
            "credit 0 0;", "interest 0;", "admin 0;", "fee 0;", "delay 0;", "worth 0;"}) {
            Check.due("load of " + statement, 4, Check.load(new FranchiseLedger(), ONE + statement));
            for (String wrong : misspelt(statement.substring(0, statement.indexOf(' ')))) {
                Check.dueLoadError(ONE + wrong + statement.substring(statement.indexOf(' ')), 1, ONE.length());
            }
        }
        FranchiseLedger x = Check.ledger(ONE);
        for (String entry : new String[] {"sales 0 0;", "deliver 0 0 0 1;", "pay a 1;", "grant a 1;", "campaign 1;",
            "vote a 0 yes;", "vote a 0 no;", "close ;"}) {
            Check.due("loadJournal of " + entry, 1, Check.loadJournal(x, entry));
            for (String wrong : misspelt(entry.substring(0, entry.indexOf(' ')))) {
                Check.dueJournalError(x, wrong + entry.substring(entry.indexOf(' ')), 1, 0);
            }
        }
        for (String vote : new String[] {"yes", "no"}) {
            for (String wrong : misspelt(vote)) {
                Check.dueJournalError(x, "vote a 0 " + wrong + ";", 1, 9);
            }
        }
        Check.dueJournalError(x, "fee 5;", 1, 0);
        Check.dueJournalError(x, "pay 5 5;", 1, 4);
        Check.dueJournalError(x, "pay abcdefghijk 5;", 1, 4);
        Check.dueJournalError(x, "pay a 1234567;", 1, 6);
        Check.dueJournalError(x, "sales a 5;", 1, 6);
        Check.dueJournalError(x, "close;7", 1, 6);
    }

    /** The word with each of its letters changed and left out, and with one more. */
    private static List<String> misspelt(String word) {
        List<String> words = new ArrayList<>();
        for (int i = 0; i < word.length(); i++) {
            words.add(word.substring(0, i) + "q" + word.substring(i + 1));
            words.add(word.substring(0, i) + word.substring(i + 1));
        }
        words.add(word + "q");
        words.add("q" + word);
        return words;
    }

    private static void range() {
        Check.dueLoadError("plan 1001 0;", 2, 5);
        Check.dueLoadError("plan 0 0;franchisee a 1 0;", 2, 22);
        Check.dueLoadError("franchisee a 0 0;", 2, 13);
        Check.dueLoadError("plan 0 0;franchisee a 0 1000;", 2, 24);
        Check.due("a plan that stands before", 2, Check.load(new FranchiseLedger(), "plan 0 0;franchisee a 0 999;"));
        Check.dueJournalError(Check.ledger(ONE), "sales 16 0;", 2, 6);
        Check.due("an outlet that there is not", 1, Check.loadJournal(Check.ledger(ONE), "sales 15 0;"));
    }

    private static void name() {
        Check.dueLoadError(ONE + "franchisee a 0 0;", 3, ONE.length() + 11);
        Check.due("another name", 5, Check.load(new FranchiseLedger(), ONE + "franchisee aa 0 0;area aa 9 9 10 10;"));
        Check.dueLoadError("plan 0 0;area a 0 0 1 1;franchisee a 0 0;", 3, 14);
        Check.dueLoadError(ONE + "area b 0 0 1 1;franchisee b 0 0;", 3, ONE.length() + 5);
        Check.dueLoadError(ONE + "outlet b 0 0;", 3, ONE.length() + 7);
        Check.dueLoadError(ONE + "outlet aa 0 0;", 3, ONE.length() + 7);
        FranchiseLedger x = Check.ledger(ONE + "franchisee abcdefghij 0 0;");
        Check.dueJournalError(x, "pay b 1;", 3, 4);
        Check.dueJournalError(x, "grant aa 1;", 3, 6);
        Check.dueJournalError(x, "vote abcdefghi 0 no;", 3, 5);
        Check.due("names of franchisees", 2, Check.loadJournal(x, "pay a 1;grant abcdefghij 1;"));
        Check.dueJournalError(new FranchiseLedger(), "pay a 1;", 3, 4);
    }

    private static void limit() {
        String full = Ledgers.fullText();
        Check.due("not yet", 29, Check.load(new FranchiseLedger(), full));
        Check.dueLoadError(full + "plan", 4, full.length());
        Check.dueLoadError(full + " franchisee", 4, full.length() + 1);
        Check.dueLoadError(full + "\noutlet", 4, full.length() + 1);
        Check.dueLoadError(full + "plans", 1, full.length());
        Check.due("more of the others", 30, Check.load(new FranchiseLedger(), full + "area h 0 1 30 30;"));
        Check.dueLoadError("plan 0 0 1 1 2 2 3 3 4 4 5 5;", 4, 25);
        Check.dueLoadError("plan 0 0 1 1 2 2 3 3 4 4 5", 4, 25);
        Check.due("a fourth", 1, Check.load(new FranchiseLedger(), "plan 0 0 1 1 2 2 3 3 4 4;"));
        FranchiseLedger x = new FranchiseLedger();
        Check.due("40 entries", 40, Check.loadJournal(x, "close;".repeat(40)));
        Check.dueJournalError(x, "close;".repeat(40) + "close", 4, 240);
        Check.dueJournalError(x, "close;".repeat(40) + "sales x", 4, 240);
        Check.dueJournalError(x, "close;".repeat(40) + "deliver", 4, 240);
        Check.dueJournalError(x, "close;".repeat(40) + "pay", 4, 240);
        Check.dueJournalError(x, "close;".repeat(40) + "grant", 4, 240);
        Check.dueJournalError(x, "close;".repeat(40) + "campaign", 4, 240);
        Check.dueJournalError(x, "close;".repeat(40) + "vote", 4, 240);
    }

    private static void conflict() {
        int start = TWO.length();
        Check.dueLoadError(TWO + "area a 5 4 6 5;", 5, start + 13);
        Check.dueLoadError(TWO + "area a 0 0 30 30;", 5, start + 14);
        Check.dueLoadError(TWO + "area b 4 4 5 5;", 5, start + 13);
        int[][] beside = {{6, 0, 7, 5}, {5, 5, 6, 6}, {0, 5, 5, 30}, {6, 4, 30, 30}, {0, 0, 5, 5}};
        for (int[] r : beside) {
            Check.due("beside b", 6, Check.load(new FranchiseLedger(),
                    TWO + "area a " + r[0] + " " + r[1] + " " + r[2] + " " + r[3] + ";"));
        }
        Check.dueLoadError(TWO + "outlet a 5 4;", 5, start + 11);
        Check.dueLoadError(TWO + "outlet a 0 5;", 5, start + 11);
        Check.dueLoadError(TWO + "outlet a 4 4;outlet a 4 4;", 5, start + 24);
        Check.due("one cell further", 7, Check.load(new FranchiseLedger(), TWO + "outlet a 4 4;outlet a 3 4;"));
        Check.due("of the other", 7, Check.load(new FranchiseLedger(), TWO + "outlet a 4 4;outlet b 5 4;"));
    }

    /** Each call is wrong in every way at once, then in every way but the first, and so on. */
    private static void orderOfExceptions() {
        FranchiseLedger x = Ledgers.OVER.get();
        Check.dueThrow("reportSales 1", Check.IOOBE, () -> x.reportSales(5, -1));
        Check.dueThrow("reportSales 2", Check.IAE, () -> x.reportSales(0, -1));
        Check.dueThrow("reportSales 3", Check.ISE, () -> x.reportSales(0, 0));
        Check.dueThrow("deliver 1", Check.IOOBE, () -> x.deliver(5, 30, 30, 0));
        Check.dueThrow("deliver 2", Check.IAE, () -> x.deliver(0, 30, 0, 1));
        Check.dueThrow("deliver 3", Check.ISE, () -> x.deliver(0, 0, 0, 1));
        Check.dueThrow("distance", Check.IOOBE, () -> x.distance(5, 30, 0));
        Check.dueThrow("cede from", Check.IOOBE, () -> x.cede(5, 5, 30, 0, 0, 0));
        Check.dueThrow("cede to", Check.IOOBE, () -> x.cede(0, 5, 30, 0, 0, 0));
        Check.dueThrow("openOutlet", Check.IOOBE, () -> x.openOutlet(5, 30, 0));
        Check.dueThrow("coverage", Check.IOOBE, () -> x.coverage(5, 59));
        Check.dueThrow("rivalCells", Check.IOOBE, () -> x.rivalCells(5, 5));
        Check.dueThrow("royalty", Check.IOOBE, () -> x.royalty(2, -1));
        Check.dueThrow("salesOf", Check.IOOBE, () -> x.salesOf(5, 60));
        Check.dueThrow("invoice", Check.IOOBE, () -> x.invoice(5, 60, 7));
        Check.dueThrow("predictDue", Check.IOOBE, () -> x.predictDue(5, 301));
        Check.dueThrow("pay", Check.IOOBE, () -> x.pay(5, 0));
        Check.dueThrow("payOff", Check.IOOBE, () -> x.payOff(5, 0));
        Check.dueThrow("grant", Check.IOOBE, () -> Check.asLong(x.grant(5, 0)));
        Check.dueThrow("requestTransfer", Check.IOOBE, () -> Check.asLong(x.requestTransfer(5, 1000, -1)));
        Check.dueThrow("vote", Check.IOOBE, () -> x.vote(5, 5, true));
        Check.dueThrow("formatInvoice", Check.IOOBE, () -> x.formatInvoice(5, 60));
    }

    /** One of each kind; the tests of the promises have the others. */
    private static void refused() {
        Ledgers.dueRefused("an exception", Ledgers.BUSY, Check.IOOBE, x -> x.pay(5, 1));
        Ledgers.dueFalse("false", Ledgers.BUSY, x -> x.campaign(1000000000L));
        Ledgers.dueRefused("NONE", Ledgers.BUSY, FranchiseLedger.NONE, x -> x.vote(Ledgers.BOB, 0, true));
        Ledgers.dueRefused("NOT_ALLOWED", Ledgers.BUSY, FranchiseLedger.NOT_ALLOWED, x -> x.openOutlet(Ledgers.ANN, 9, 9));
        Ledgers.dueRefused("FULL", Ledgers.FULL, FranchiseLedger.FULL, x -> x.openOutlet(0, 20, 0));
    }
}
