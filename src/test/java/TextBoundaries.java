/** The description's sentences on tokens, the statements of a system and the entries of a journal. */
final class TextBoundaries {
    private static final int NONE = FranchiseLedger.NONE;
    private static final int TEXT_ERROR = FranchiseLedger.TEXT_ERROR;
    private static final int HERE = Sentences.DESCRIPTION;
    private static final String[] RESERVED = {"plan", "franchisee", "area", "outlet", "credit", "interest", "admin", "fee",
        "delay", "worth"};
    // Franchisee a with the cells of columns 0 to 4 in rows 0 to 4.
    private static final String ONE = "plan 0 1000;franchisee a 0 5;area a 0 0 5 5;";

    private TextBoundaries() {
    }

    static void test() {
        Sentences.test(HERE, TextBoundaries::buffer, "INPUT. Text is collected in an input buffer of at most 1500 bytes; "
                + "load(), loadJournal() and find() read it and empty it, also on an error.");
        Sentences.test(HERE, TextBoundaries::tokens, "Tokens are words (longest runs of the letters a to z, at most 10 "
                + "letters), numbers (longest runs of digits, at most 6 digits) and the symbol ;.");
        Sentences.test(HERE, TextBoundaries::separators, "Spaces and line feeds (bytes 32 and 10) separate tokens and have "
                + "no other meaning.");
        Sentences.test(HERE, TextBoundaries::sequences, "The text of a system is a sequence of statements, perhaps empty, in "
                + "any order:");
        Sentences.test(HERE, TextBoundaries::plans, "plan ADVERTISING RATE { THRESHOLD RATE } ; (0 to 1000; 0 to 3000; "
                + "thresholds are whole dollars, 1 to 99999, each greater than the one before; at most 4 pairs)");
        Sentences.test(HERE, TextBoundaries::franchisees, "franchisee NAME PLAN WORTH ; (a plan that stands before, by "
                + "number; 0 to 999)");
        Sentences.test(HERE, TextBoundaries::areas, "area NAME X1 Y1 X2 Y2 ; (0 to 29; 0 to 29; X1 + 1 to 30; Y1 + 1 to 30): "
                + "the cells with X1 <= x < X2 and Y1 <= y < Y2 become cells of this franchisee");
        Sentences.test(HERE, TextBoundaries::outlets, "outlet NAME X Y ; (0 to 29 each): an outlet of this franchisee");
        Sentences.test(HERE, TextBoundaries::terms, "credit RATE CAP ; interest RATE ; admin RATE ; fee AMOUNT ; delay MONTHS "
                + "; worth LEAST ; (0 to 5000, 0 to 9999; 0 to 500; 0 to 2000; 0 to 9999; 0 to 12; 0 to 999; CAP and AMOUNT "
                + "are whole dollars): the credit rate and cap, interest rate, admin rate, transfer fee, delay of transfers "
                + "and least worth of a buyer;");
        Sentences.test(HERE, TextBoundaries::missingTerms, "each is 0 if its statement is missing; the last one counts");
        Sentences.test(HERE, TextBoundaries::entries, "The text of a journal is a sequence of entries, perhaps empty: sales "
                + "OUTLET DOLLARS ; deliver OUTLET X Y DOLLARS ; pay NAME DOLLARS ; grant NAME DOLLARS ; campaign DOLLARS ; "
                + "vote NAME MEMBER yes ; vote NAME MEMBER no ; close ; (OUTLET 0 to 15; DOLLARS of sales 0 to 100000, of "
                + "deliver 1 to 100000, of the others 1 to 999999, whole dollars; X and Y 0 to 29; MEMBER 0 to 4)");
        Sentences.test(HERE, TextBoundaries::names, "The words plan, franchisee, area, outlet, credit, interest, admin, fee, "
                + "delay and worth are reserved; every other word can be a NAME.");
        Sentences.test(HERE, TextBoundaries::replaced, "A text of a system without errors replaces everything, the snapshots "
                + "included: an empty journal, present month 0, no sales, an empty fund, no transfers.");
    }

    private static void buffer() {
        String spaces = " ".repeat(1494);
        FranchiseLedger x = new FranchiseLedger();
        Check.due("a text of 1500 bytes", 1, Check.load(x, spaces + "fee 5;"));
        Check.due("an error in its last byte", TEXT_ERROR, Check.load(x, spaces + "fee 5,"));
        Check.due("at its position", 1499, x.errorPosition());
        Check.due("a journal of 1500 bytes", 1, Check.loadJournal(x, spaces + "close;"));
        String[] texts = {"fee 5;", "close;", "a", "", "?"};
        for (String text : texts) {
            for (int reader = 0; reader < 3; reader++) {
                FranchiseLedger y = Check.ledger(ONE);
                Check.put(y, text);
                read(y, reader);
                Check.due("emptied by reader " + reader + " of " + text, NONE, y.truncateInput(1));
                Check.due("and ready for more", 20, y.appendInput(0, 0, 0, 0, 0));
            }
        }
    }

    private static int read(FranchiseLedger x, int reader) {
        return reader == 0 ? x.load() : reader == 1 ? x.loadJournal() : x.find();
    }

    private static void tokens() {
        Check.due("10 letters", 2, Check.load(new FranchiseLedger(), "plan 0 0;franchisee abcdefghij 0 0;"));
        Check.dueLoadError("plan 0 0;franchisee abcdefghijk 0 0;", 1, 20);
        Check.due("6 digits", 1, Check.load(new FranchiseLedger(), "fee 009999;"));
        Check.dueLoadError("fee 0009999;", 1, 4);
        Check.due("a to z", 2, Check.load(new FranchiseLedger(), "plan 0 0;franchisee az 0 0;"));
        // The bytes beside a and z, 0 and 9, and beside the semicolon.
        for (String sign : new String[] {"`", "{", "/", ":", "<", "A", "Z", "_", "-", "+", ".", "\u0080", "\u00e9", "\u00ff"}) {
            Check.dueLoadError("plan 0 0;franchisee " + sign + " 0 0;", 1, 20);
            Check.dueLoadError("plan 0 0;franchisee a" + sign + " 0 0;", 1, 21);
            Check.dueLoadError("fee 5" + sign, 1, 5);
            Check.dueLoadError(sign, 1, 0);
        }
        FranchiseLedger x = new FranchiseLedger();
        Check.due("words and numbers need nothing between them", 3, Check.load(x, "plan000 0;franchisee abc0 5;worth009;"));
        Check.due("the name", 0, Check.find(x, "abc"));
        Check.due("the longest run", 2, Check.load(x, "plan 0 0;franchisee plana 0 0;"));
        Check.due("is one word", 0, Check.find(x, "plana"));
        Check.due("the least digit and the greatest", 2, Check.load(x, "fee 0;fee 9;"));
        Check.dueLoadError("plan 0 0;franchisee 10 0 0;", 1, 20);
        Check.due("symbols need nothing between them", TEXT_ERROR, Check.load(x, "fee 5;;"));
    }

    private static void separators() {
        FranchiseLedger x = new FranchiseLedger();
        Check.due("before, between and behind", 2, Check.load(x, "\n \nplan\n0  0\n;\n\nfee \n 5 ; \n"));
        for (char sign : new char[] {0, 9, 11, 12, 13, 31, 33, 127, 160}) {
            Check.dueLoadError("fee" + sign + "5;", 1, 3);
            Check.dueLoadError("fee 5;" + sign, 1, 6);
        }
        Check.dueLoadError("fe e 5;", 1, 0);
        Check.dueLoadError("fee 5 5;", 1, 6);
        Check.dueLoadError("fee 5\n5;", 1, 6);
        Check.due("in a journal too", 2, Check.loadJournal(x, "\n close ;\nclose\n\n; "));
    }

    private static void sequences() {
        FranchiseLedger x = new FranchiseLedger();
        Check.due("an empty one", 0, Check.load(x, ""));
        Check.due("of separators alone", 0, Check.load(x, "\n \n"));
        Check.due("terms first", 3, Check.load(x, "delay 5;plan 0 0;franchisee a 0 0;"));
        Check.due("terms last", 3, Check.load(x, "plan 0 0;franchisee a 0 0;delay 5;"));
        Check.due("a plan behind a franchisee", 4, Check.load(x, "plan 0 0;franchisee a 0 0;plan 0 0;franchisee b 1 0;"));
        Check.due("a franchisee behind an outlet", 6, Check.load(x, "plan 0 0;franchisee a 0 0;area a 0 0 2 2;outlet a 1 1;"
                + "franchisee b 0 0;area b 2 2 3 3;"));
        Check.due("an area behind an outlet", 5, Check.load(x, "plan 0 0;franchisee a 0 0;area a 0 0 2 2;outlet a 1 1;"
                + "area a 0 0 3 3;"));
        Check.due("the longest sequence", 187, Check.load(x, "delay 5;".repeat(187)));
    }

    /** Both ends of a range are allowed, and the numbers beside them are errors 2 at their place. */
    private static void dueRange(String before, int least, int most, String behind) {
        for (int number : new int[] {least, most}) {
            FranchiseLedger x = new FranchiseLedger();
            Check.due("load of " + before + number + behind, true, Check.load(x, before + number + behind) > 0);
        }
        if (least > 0) {
            Check.dueLoadError(before + (least - 1) + behind, 2, before.length());
        }
        Check.dueLoadError(before + (most + 1) + behind, 2, before.length());
        Check.dueLoadError(before + 999999 + behind, 2, before.length());
    }

    private static void plans() {
        dueRange("plan ", 0, 1000, " 0;");
        dueRange("plan 0 ", 0, 3000, ";");
        dueRange("plan 0 0 ", 1, 99999, " 0;");
        dueRange("plan 0 0 1 ", 0, 3000, ";");
        dueRange("plan 0 0 500 0 ", 501, 99999, " 0;");
        dueRange("plan 0 0 1 0 2 0 3 0 ", 4, 99999, " 0;");
        dueRange("plan 0 0 1 0 2 0 3 0 4 ", 0, 3000, ";");
        Check.dueLoadError("plan 0 0 99999 0 99999 0;", 2, 17);
        Check.dueLoadError("plan 0 0 5 0 5 0;", 2, 13);
        Check.due("4 pairs", 1, Check.load(new FranchiseLedger(), "plan 0 0 1 0 2 0 3 0 4 0;"));
        Check.dueLoadError("plan 0 0 1 0 2 0 3 0 4 0 5 0;", 4, 25);
        FranchiseLedger x = Check.ledger("plan 0 0 7 3000;");
        Check.due("7 whole dollars", 0, x.royalty(0, 700));
        Check.due("and 2 cents", 1, x.royalty(0, 702));
        Check.due("no pair", 1, Check.load(x, "plan 1000 3000;"));
        Check.dueLoadError("plan 0 0 1;", 1, 10);
        Check.dueLoadError("plan 0;", 1, 6);
    }

    private static void franchisees() {
        dueRange("plan 0 0;franchisee a ", 0, 0, " 0;");
        dueRange("plan 0 0;plan 0 0;plan 0 0;plan 0 0;franchisee a ", 0, 3, " 0;");
        dueRange("plan 0 0;franchisee a 0 ", 0, 999, ";");
        Check.dueLoadError("franchisee a 0 0;", 2, 13);
        Check.dueLoadError("franchisee a 0 0;plan 0 0;", 2, 13);
        Check.dueLoadError("plan 0 0;franchisee a 1 0;plan 0 0;", 2, 22);
        FranchiseLedger x = Check.ledger("plan 0 1;plan 0 2;franchisee a 1 999;franchisee b 0 0;");
        Check.due("plan of a", 1, x.planOf(0));
        Check.due("plan of b", 0, x.planOf(1));
        Check.due("worth of a", 999, x.worth(0));
        Check.due("worth of b", 0, x.worth(1));
    }

    private static void areas() {
        String two = "plan 0 0;franchisee a 0 0;";
        dueRange(two + "area a ", 0, 29, " 0 30 1;");
        dueRange(two + "area a 0 ", 0, 29, " 1 30;");
        dueRange(two + "area a 0 0 ", 1, 30, " 1;");
        dueRange(two + "area a 29 0 ", 30, 30, " 1;");
        dueRange(two + "area a 14 0 ", 15, 30, " 1;");
        dueRange(two + "area a 0 0 1 ", 1, 30, ";");
        dueRange(two + "area a 0 29 1 ", 30, 30, ";");
        dueRange(two + "area a 0 14 1 ", 15, 30, ";");
        Check.dueLoadError(two + "area a 5 0 4 1;", 2, two.length() + 11);
        FranchiseLedger x = Check.ledger(two + "area a 3 4 6 9;");
        Check.due("cells", 15, x.area(0));
        Check.due("X1 and Y1", 0, x.owner(3, 4));
        Check.due("left of X1", NONE, x.owner(2, 4));
        Check.due("above Y1", NONE, x.owner(3, 3));
        Check.due("before X2 and Y2", 0, x.owner(5, 8));
        Check.due("X2", NONE, x.owner(6, 8));
        Check.due("Y2", NONE, x.owner(5, 9));
        Check.due("a cell becomes a cell of its own franchisee again", 25, areaOf(ONE + "area a 0 0 5 5;"));
        Check.due("with others", 36, areaOf(ONE + "area a 0 0 6 6;"));
    }

    private static int areaOf(String text) {
        return Check.ledger(text).area(0);
    }

    private static void outlets() {
        String all = "plan 0 0;franchisee a 0 0;area a 0 0 30 30;";
        dueRange(all + "outlet a ", 0, 29, " 7;");
        dueRange(all + "outlet a 7 ", 0, 29, ";");
        FranchiseLedger x = Check.ledger(all + "outlet a 29 0;outlet a 0 29;");
        Check.due("the first", 29, x.outletCell(0));
        Check.due("the second", 2900, x.outletCell(1));
        Check.due("its franchisee", 0, x.outletOwner(1));
    }

    private static void terms() {
        dueRange("credit ", 0, 5000, " 0;");
        dueRange("credit 0 ", 0, 9999, ";");
        dueRange("interest ", 0, 500, ";");
        dueRange("admin ", 0, 2000, ";");
        dueRange("fee ", 0, 9999, ";");
        dueRange("delay ", 0, 12, ";");
        dueRange("worth ", 0, 999, ";");
        FranchiseLedger x = Check.ledger(twoWithTerms("credit 5000 9;interest 500;admin 2000;fee 9999;delay 12;worth 999;"));
        dueTerms(x, 500, 900, 50000, 200000, 999900, 12, 999);
        dueTerms(Check.ledger(twoWithTerms("credit 1 1;interest 1;admin 1;fee 1;delay 1;worth 1;")), 0, 100, 100, 100, 100, 1, 1);
    }

    private static String twoWithTerms(String terms) {
        return "plan 1000 0;franchisee a 0 0;franchisee b 0 0;area a 0 0 1 1;area b 1 0 2 1;outlet a 0 0;" + terms;
    }

    /** Credits of 1000 cents and of very much, interest on 1000000 cents, admin of as much, fee, delay and least worth. */
    private static void dueTerms(FranchiseLedger x, long credit, long cap, long interest, long admin, long fee, int delay,
            int worth) {
        x.deliver(0, 1, 0, 1000);
        Check.due("credit rate", credit, x.creditDue(0, 1));
        x.deliver(0, 1, 0, 9000000);
        Check.due("credit cap", cap, x.creditDue(0, 1));
        if (worth > 0) {
            Check.due("below the least worth", false, x.requestTransfer(1, worth - 1, 0));
        }
        Check.due("the least worth", true, x.requestTransfer(1, worth, 0));
        Check.due("delay", delay, x.transferWait(1));
        x.reportSales(0, 10000000);
        x.closeMonth();
        Check.due("admin rate", admin, x.spent(FranchiseLedger.ADMIN));
        if (cap > 0) {
            x.pay(0, cap);
        }
        x.closeMonth();
        Check.due("interest rate", interest, x.invoice(0, 1, 2));
        Ledgers.decide(x, 1, true);
        long before = x.balance(1);
        for (int i = 0; i < 13 && x.transferState(1) == FranchiseLedger.APPROVED; i++) {
            x.closeMonth();
        }
        Check.due("fee", fee, x.balance(1) - before);
    }

    private static void missingTerms() {
        dueTerms(Check.ledger(twoWithTerms("")), 0, 0, 0, 0, 0, 0, 0);
        dueTerms(Check.ledger(twoWithTerms("credit 5000 9;interest 500;admin 2000;fee 9999;delay 12;worth 999;"
                + "credit 2000 8;interest 200;admin 1000;fee 7;delay 3;worth 40;")), 200, 800, 20000, 100000, 700, 3, 40);
        dueTerms(Check.ledger(twoWithTerms("credit 5000 9;interest 500;admin 2000;fee 9999;delay 12;worth 999;"
                + "credit 0 0;interest 0;admin 0;fee 0;delay 0;worth 0;")), 0, 0, 0, 0, 0, 0, 0);
        // A load may use again what an earlier one has left behind, so several follow one another.
        for (int loads = 1; loads <= 3; loads++) {
            FranchiseLedger x = Check.ledger(twoWithTerms("credit 5000 9;interest 500;admin 2000;fee 9999;delay 12;worth 999;"));
            for (int i = 0; i < loads; i++) {
                Check.load(x, twoWithTerms(""));
            }
            dueTerms(x, 0, 0, 0, 0, 0, 0, 0);
        }
    }

    /** As dueRange, for an entry. */
    private static void dueEntryRange(String before, int least, int most, String behind) {
        FranchiseLedger x = Check.ledger(ONE);
        Check.due("entry " + before + least + behind, 1, Check.loadJournal(x, before + least + behind));
        Check.due("entry " + before + most + behind, 1, Check.loadJournal(x, before + most + behind));
        if (least > 0) {
            Check.dueJournalError(x, before + (least - 1) + behind, 2, before.length());
        }
        // A number of seven digits is no token.
        Check.dueJournalError(x, before + (most + 1) + behind, most == 999999 ? 1 : 2, before.length());
    }

    private static void entries() {
        FranchiseLedger x = Check.ledger(ONE);
        Check.due("an empty one", 0, Check.loadJournal(x, ""));
        dueEntryRange("sales ", 0, 15, " 0;");
        dueEntryRange("sales 0 ", 0, 100000, ";");
        dueEntryRange("deliver ", 0, 15, " 0 0 1;");
        dueEntryRange("deliver 0 ", 0, 29, " 0 1;");
        dueEntryRange("deliver 0 0 ", 0, 29, " 1;");
        dueEntryRange("deliver 0 0 0 ", 1, 100000, ";");
        dueEntryRange("pay a ", 1, 999999, ";");
        dueEntryRange("grant a ", 1, 999999, ";");
        dueEntryRange("campaign ", 1, 999999, ";");
        dueEntryRange("vote a ", 0, 4, " yes;");
        dueEntryRange("vote a ", 0, 4, " no;");
        Check.dueJournalError(x, "vote a 0 yesno;", 1, 9);
        Check.dueJournalError(x, "vote a 0 y;", 1, 9);
        Check.dueJournalError(x, "vote a 0;", 1, 8);
        Check.dueJournalError(x, "close 0;", 1, 6);
        wholeDollars();
    }

    private static void wholeDollars() {
        FranchiseLedger x = Check.ledger("plan 1000 0;franchisee a 0 5;area a 0 0 5 5;outlet a 0 0;outlet a 1 0;");
        Check.loadJournal(x, "sales 0 99999;deliver 0 4 0 1;sales 1 100000;close;pay a 999999;grant a 7;campaign 9;");
        Check.due("the first two", 2, x.runJournal(2));
        Check.due("sales in cents", 10000000, x.sales(0));
        Check.due("the others", 5, x.runJournal(5));
        Check.due("pay and grant in cents", 2000000 - 99999900 - 700, x.balance(0));
        Check.due("campaign in cents", 900, x.spent(FranchiseLedger.NATIONAL));
    }

    private static void names() {
        for (String word : RESERVED) {
            Check.dueLoadError("plan 0 0;franchisee " + word + " 0 0;", 1, 20);
            for (String name : new String[] {word.substring(1), word.substring(0, word.length() - 1)}) {
                Check.due("the name " + name, 2, Check.load(new FranchiseLedger(), "plan 0 0;franchisee " + name + " 0 0;"));
            }
            if (word.length() < 10) {
                Check.due("the name " + word + "s", 2,
                        Check.load(new FranchiseLedger(), "plan 0 0;franchisee " + word + "s 0 0;"));
            }
        }
        for (String word : new String[] {"sales", "deliver", "pay", "grant", "campaign", "vote", "close", "yes", "no"}) {
            FranchiseLedger x = Check.ledger("plan 0 0;franchisee " + word + " 0 0;area " + word + " 0 0 1 1;outlet " + word
                    + " 0 0;");
            Check.due("found", 0, Check.find(x, word));
            Check.due("in a journal", 3, Check.loadJournal(x, "pay " + word + " 1;vote " + word + " 0 no;grant " + word
                    + " 1;"));
        }
    }

    private static void replaced() {
        FranchiseLedger x = Ledgers.BUSY.get();
        Check.load(x, ONE + "outlet a 0 0;");
        FranchiseLedger fresh = Check.ledger(ONE + "outlet a 0 0;");
        Check.due("as in a new ledger", Sights.now(fresh), Sights.now(x));
        Check.due("an empty journal", 0, x.count(3));
        Check.due("month", 0, x.month());
        Check.due("no sales", 0, x.sales(0));
        Check.due("the fund", 0, x.fundBalance());
        Check.due("no transfer", FranchiseLedger.NO_TRANSFER, x.transferState(0));
        Check.due("no first snapshot", false, x.restoreSnapshot(0));
        Check.due("no second snapshot", false, x.restoreSnapshot(1));
        Check.due("an old name", NONE, Check.find(x, "ann"));
        for (String text : new String[] {"", "plan 0 0;", ONE, Ledgers.fullText(), Ledgers.eightText()}) {
            for (int course = 1; course <= 2; course++) {
                dueReplaced(text, course);
            }
        }
    }

    /** A load may use again what an earlier one has left behind, so several follow one another. */
    private static void dueReplaced(String text, int course) {
        String fresh = Sights.business(() -> Check.ledger(text));
        for (int loads = 0; loads < 3; loads++) {
            int between = loads;
            Check.due("everything of " + text, fresh, Sights.business(() -> {
                FranchiseLedger x = Ledgers.BUSY.get();
                Check.load(x, Ledgers.eightText());
                Ledgers.runCourse(x, course);
                for (int i = 0; i < between; i++) {
                    Check.load(x, "");
                }
                Check.load(x, text);
                return x;
            }));
        }
    }
}
