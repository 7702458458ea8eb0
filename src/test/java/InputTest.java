/** Promises 1 to 7: a new object, the input buffer, the text of a system and its errors, and find(). */
public final class InputTest {
    private static final int NONE = FranchiseLedger.NONE;
    private static final String ONE = "plan 0 0;franchisee a 0 5;";
    private static final String TWO = ONE + "franchisee b 0 5;area a 0 0 2 2;";

    public static void main(String[] args) {
        newObject();
        appending();
        truncating();
        loading();
        whatALoadReplaces();
        whatAFailedLoadKeeps();
        planErrors();
        franchiseeErrors();
        areaErrors();
        outletErrors();
        termErrors();
        tokenErrors();
        errorsOfTheLastReading();
        finding();
        Check.end();
    }

    private static void newObject() {
        FranchiseLedger x = new FranchiseLedger();
        for (int what = 0; what < 4; what++) {
            Check.due("count of a new object", 0, x.count(what));
        }
        Check.due("month of a new object", 0, x.month());
        Check.due("errorCode of a new object", 0, x.errorCode());
        Check.due("errorPosition of a new object", NONE, x.errorPosition());
        Check.due("owner in a new object", NONE, x.owner(29, 29));
        Check.due("fundBalance of a new object", 0, x.fundBalance());
        Check.due("totalOwed of a new object", 0, x.totalOwed());
        Check.due("ranked of a new object", NONE, x.ranked(0));
        Check.due("formattedByte of a new object", NONE, x.formattedByte(0));
        Check.due("restoreSnapshot of a new object", false, x.restoreSnapshot(0));
        Check.due("the buffer of a new object", NONE, x.truncateInput(1));
        Check.due("runJournal of a new object", 0, x.runJournal(1));
        Check.dueThrow("status in a new object", Check.IOOBE, () -> x.status(0));
        Check.dueThrow("sales in a new object", Check.IOOBE, () -> x.sales(0));
        Check.dueThrow("royalty in a new object", Check.IOOBE, () -> x.royalty(0, 0));
        Check.due("closeMonth of a new object", 1, x.closeMonth());
    }

    private static void appending() {
        FranchiseLedger x = new FranchiseLedger();
        for (int length = 20; length <= 1500; length += 20) {
            Check.due("appendInput", length, x.appendInput(0x20202020, 0x20202020, 0x20202020, 0x20202020, 0x20202020));
        }
        Check.due("appendInput to a full buffer", NONE, x.appendInput(0, 0, 0, 0, 0));
        Check.due("the full buffer stays", 1500, x.truncateInput(1500));
        x.truncateInput(1481);
        Check.due("appendInput beyond 1500 bytes", NONE, x.appendInput(0, 0, 0, 0, 0));
        Check.due("nothing was appended", NONE, x.truncateInput(1482));
        x.truncateInput(1480);
        Check.due("appendInput to 1500 bytes", 1500,
                x.appendInput(0x20202020, 0x20202020, 0x20202020, 0x20202020, 0x2020203b));
        Check.due("a text of 1500 bytes", FranchiseLedger.TEXT_ERROR, x.load());
        Check.due("its last byte is the error", 1499, x.errorPosition());
        // "plan", " 0 0", ";fee", " 7; ", "\n\n\n\n": each argument with its most significant byte first
        Check.due("appendInput of a text", 20, x.appendInput(0x706c616e, 0x20302030, 0x3b666565, 0x20373b20, 0x0a0a0a0a));
        Check.due("its statements", 2, x.load());
        Check.due("load empties the buffer", 20, x.appendInput(-1, -1, -1, -1, -1));
    }

    private static void truncating() {
        FranchiseLedger x = new FranchiseLedger();
        Check.due("truncateInput of nothing", 0, x.truncateInput(0));
        Check.due("truncateInput below 0", NONE, x.truncateInput(-1));
        x.appendInput(1, 2, 3, 4, 5);
        Check.due("truncateInput above the length", NONE, x.truncateInput(21));
        Check.due("truncateInput to the length", 20, x.truncateInput(20));
        Check.due("truncateInput", 7, x.truncateInput(7));
        Check.due("truncateInput above the new length", NONE, x.truncateInput(8));
        Check.due("truncateInput keeps the length if refused", 27, x.appendInput(1, 2, 3, 4, 5));
    }

    private static void loading() {
        FranchiseLedger x = new FranchiseLedger();
        Check.due("an empty text", 0, Check.load(x, ""));
        Check.due("separators alone", 0, Check.load(x, " \n\n  "));
        Check.due("no separators", 7, Check.load(x, "plan1 2;franchisee a0 5;fee000007;delay12;area a0 0 1 1;outlet a0 0;worth0;"));
        Check.due("any order", 4, Check.load(x, "worth 3\n;\nplan\n0\n0 ; franchisee fees 0 0;area fees 0 0 30 30;"));
        Check.due("the words of a journal are names", 4,
                Check.load(x, "plan 0 0;franchisee sales 0 1;franchisee close 0 2;franchisee yes 0 3;"));
        Check.due("worth of the third", 3, x.worth(2));
        Check.due("the greatest numbers", 13, Check.load(x, "plan 1000 3000 1 3000 2 0 3 1 99999 3000;plan 0 0;plan 0 0;"
                + "plan 0 0;franchisee abcdefghij 3 999;area abcdefghij 29 29 30 30;outlet abcdefghij 29 29;"
                + "credit 5000 9999;interest 500;admin 2000;fee 9999;delay 12;worth 999;"));
        Check.due("four plans", 4, x.count(0));
        Check.due("the fourth plan", 3, x.planOf(0));
        Check.due("the last cell", 0, x.owner(29, 29));
        Check.due("its outlet", 2929, x.outletCell(0));
        StringBuilder many = new StringBuilder("plan 0 0;");
        for (char c = 'a'; c < 'i'; c++) {
            many.append("franchisee ").append(c).append(" 0 ").append(c - 'a').append(';');
        }
        many.append("area h 0 0 30 1;area h 10 0 20 2;");
        for (int i = 0; i < 16; i++) {
            many.append("outlet h ").append(i).append(" 0;");
        }
        Check.due("as many as there can be", 27, Check.load(x, many.toString()));
        Check.due("eight franchisees", 8, x.count(1));
        Check.due("sixteen outlets", 16, x.count(2));
        Check.due("areas of one franchisee may overlap", 40, x.area(7));
        Check.load(x, "fee 1;fee 2;plan 0 0;franchisee a 0 0;delay 5;delay 0;worth 9;worth 0;");
        x.requestTransfer(0, 0, 0);
        Check.due("the last delay counts", 0, x.transferWait(0));
        for (int member = 0; member < 3; member++) {
            x.vote(0, member, true);
        }
        x.closeMonth();
        Check.due("the last fee counts", 200, x.balance(0));
    }

    /** The second of the new systems is made where the used one was before. */
    private static void whatALoadReplaces() {
        FranchiseLedger x = usedLedger();
        for (int load = 0; load < 2; load++) {
            Check.due("a text without errors", 10, Check.load(x, "plan 100 1000;franchisee a 0 7;franchisee b 0 7;"
                    + "franchisee c 0 7;area a 0 0 1 1;area b 1 0 2 1;area c 2 0 3 1;outlet a 0 0;outlet b 1 0;"
                    + "outlet c 2 0;"));
            dueFreshLedger(x);
            dueNoTerms(x);
        }
        Check.load(x, ONE);
        Check.due("fewer franchisees", 1, x.count(1));
        Check.due("no outlets", 0, x.count(2));
        Check.due("no cells", 0, x.area(0));
        Check.due("cells of none", NONE, x.owner(0, 0));
        String credit = "plan 0 0;franchisee a 0 0;franchisee b 0 0;area a 0 0 1 1;area b 1 0 2 1;outlet a 0 0;credit 5000 9;";
        Check.load(x, credit);
        x.deliver(0, 1, 0, 1000);
        Check.due("a credit", 500, x.creditDue(0, 1));
        Check.load(x, credit);
        Check.load(x, credit);
        Check.due("no deliveries", 0, x.creditDue(0, 1));
    }

    private static FranchiseLedger usedLedger() {
        FranchiseLedger x = Check.ledger("plan 100 1000 1 3000 5 2000;franchisee a 0 5;franchisee b 0 5;franchisee c 0 5;"
                + "area a 0 0 3 3;area b 3 0 6 3;area c 6 0 9 3;outlet a 0 0;outlet b 3 0;outlet c 6 0;"
                + "credit 5000 9999;interest 500;admin 2000;fee 9999;delay 1;worth 500;");
        x.requestTransfer(0, 999, 0);
        for (int member = 0; member < 3; member++) {
            x.vote(0, member, true);
        }
        for (int outlet = 0; outlet < 3; outlet++) {
            x.reportSales(outlet, 100000);
        }
        for (int i = 0; i < 5; i++) {
            x.closeMonth();
        }
        x.campaign(1);
        x.grant(0, 1);
        x.pay(0, 1000000000);
        x.requestTransfer(0, 999, 0);
        x.terminate(1);
        x.pay(2, 1000000000);
        x.requestTransfer(2, 999, 0);
        x.exercise(2);
        x.openOutlet(0, 1, 0);
        x.reportSales(0, 700);
        x.saveSnapshot(0);
        x.saveSnapshot(1);
        Check.loadJournal(x, "close;close;");
        Check.due("generation before", 1, x.generation(0));
        Check.due("status before", FranchiseLedger.TERMINATED, x.status(1));
        Check.due("status before", FranchiseLedger.COMPANY, x.status(2));
        return x;
    }

    private static void dueFreshLedger(FranchiseLedger x) {
        Check.due("empty journal", 0, x.count(3));
        Check.due("present month 0", 0, x.month());
        Check.due("an empty fund", 0, x.fundBalance());
        Check.due("nothing owed", 0, x.totalOwed());
        Check.due("no snapshot 0", false, x.restoreSnapshot(0));
        Check.due("no snapshot 1", false, x.restoreSnapshot(1));
        for (int i = 0; i < 3; i++) {
            Check.due("no spending", 0, x.spent(i));
            Check.due("no sales", 0, x.sales(i));
            Check.due("new outlets", i, x.outletOwner(i));
            Check.due("new cells", 1, x.area(i));
            Check.due("new worth", 7, x.worth(i));
            Check.due("no balance", 0, x.balance(i));
            Check.due("no contributions", 0, x.contributions(i));
            Check.due("no grants", 0, x.allowance(i));
            Check.due("no transfer", FranchiseLedger.NO_TRANSFER, x.transferState(i));
            Check.due("active", FranchiseLedger.ACTIVE, x.status(i));
            Check.due("no generation", 0, x.generation(i));
            Check.due("not overdue", 0, x.monthsOverdue(i));
            Check.due("no sales before", i, x.ranked(i));
        }
    }

    private static void dueNoTerms(FranchiseLedger x) {
        Check.due("no tiers", 100000, x.royalty(0, 1000000));
        Check.due("no least worth", true, x.requestTransfer(0, 0, 0));
        Check.due("no delay", 0, x.transferWait(0));
        for (int member = 0; member < 3; member++) {
            x.vote(0, member, true);
        }
        x.deliver(1, 0, 0, 1000);
        Check.due("no credit", 0, x.creditDue(1, 0));
        x.closeMonth();
        Check.due("no fee", 0, x.balance(0));
        Check.due("no admin rate", 0, x.spent(FranchiseLedger.ADMIN));
        x.closeMonth();
        Check.due("no interest", 110, x.balance(1));
    }

    private static void whatAFailedLoadKeeps() {
        FranchiseLedger x = Check.ledger("plan 100 1000;franchisee a 0 5;area a 0 0 3 3;outlet a 0 0;");
        x.reportSales(0, 100000);
        x.closeMonth();
        x.saveSnapshot(1);
        Check.loadJournal(x, "close;close;");
        Check.due("a text with an error", FranchiseLedger.TEXT_ERROR,
                Check.load(x, "plan 7 7;plan 8 8;franchisee b 1 9;area b 0 0 30 30;outlet b 1 1;fee 5;x"));
        Check.due("plans stay", 1, x.count(0));
        Check.due("franchisees stay", 1, x.count(1));
        Check.due("outlets stay", 1, x.count(2));
        Check.due("the journal stays", 2, x.count(3));
        Check.due("the month stays", 1, x.month());
        Check.due("the cells stay", 9, x.area(0));
        Check.due("the name stays", 0, Check.find(x, "a"));
        Check.due("the balance stays", 11000, x.balance(0));
        Check.due("the snapshot stays", true, x.restoreSnapshot(1));
    }

    private static void planErrors() {
        Check.dueLoadError("plan", 1, 4);
        Check.dueLoadError("plan 1 ", 1, 7);
        Check.dueLoadError("plan 1 2", 1, 8);
        Check.dueLoadError("plan 1 2 3", 1, 10);
        Check.dueLoadError("plan 1 2 3;", 1, 10);
        Check.dueLoadError("plan 1 2 3 4\n\n", 1, 14);
        Check.dueLoadError("plan;", 1, 4);
        Check.dueLoadError("plan 1;", 1, 6);
        Check.dueLoadError("plan x 2;", 1, 5);
        Check.dueLoadError("plan 1 2 x;", 1, 9);
        Check.dueLoadError("plan 1001 0;", 2, 5);
        Check.dueLoadError("plan 1000 3001;", 2, 10);
        Check.dueLoadError("plan 0 0 0 1;", 2, 9);
        Check.dueLoadError("plan 0 0 100000 1;", 2, 9);
        Check.dueLoadError("plan 0 0 99999 3001;", 2, 15);
        Check.dueLoadError("plan 0 0 5 1 5 1;", 2, 13);
        Check.dueLoadError("plan 0 0 5 1 4 1;", 2, 13);
        Check.dueLoadError("plan 0 0 99999 1 99999 1;", 2, 17);
        String four = "plan 0 0 1 1 2 1 3 1 4 1 ";
        Check.dueLoadError(four + "5 1;", 4, 25);
        Check.dueLoadError(four + "99999", 4, 25);
        Check.dueLoadError(four + "4 1;", 2, 25);
        Check.dueLoadError(four + "100000 1;", 2, 25);
        Check.dueLoadError(four + "1234567 1;", 1, 25);
        Check.dueLoadError(four + "x", 1, 25);
        Check.dueLoadError(four, 1, 25);
        String plans = "plan 0 0;plan 0 0;plan 0 0;plan 0 0;";
        Check.dueLoadError(plans + " plan", 4, 37);
        Check.dueLoadError(plans + "planx", 1, 36);
    }

    private static void franchiseeErrors() {
        Check.dueLoadError("franchisee a 0 5;", 2, 13);
        Check.dueLoadError("plan 0 0;franchisee a 1 5;", 2, 22);
        Check.dueLoadError("plan 0 0;franchisee a b 5;", 1, 22);
        Check.dueLoadError("plan 0 0;franchisee a 0 1000;", 2, 24);
        Check.dueLoadError("plan 0 0;franchisee a 0;", 1, 23);
        Check.dueLoadError("plan 0 0;franchisee 5 0 5;", 1, 20);
        Check.dueLoadError("plan 0 0;franchisee ; 0 5;", 1, 20);
        Check.dueLoadError("plan 0 0;franchisee abcdefghijk 0 5;", 1, 20);
        Check.dueLoadError("plan 0 0;franchisee a 0 5", 1, 25);
        for (String word : new String[] {"plan", "franchisee", "area", "outlet", "credit", "interest", "admin", "fee",
            "delay", "worth"}) {
            Check.dueLoadError("plan 0 0;franchisee " + word + " 0 5;", 1, 20);
            Check.dueLoadError("area " + word + " 0 0 1 1;", 1, 5);
            Check.dueLoadError("outlet " + word + " 0 0;", 1, 7);
        }
        Check.dueLoadError(ONE + "franchisee a 9 9999;", 3, 37);
        Check.due("a name that begins another", 3, Check.load(new FranchiseLedger(), ONE + "franchisee ab 0 0;"));
        StringBuilder eight = new StringBuilder("plan 0 0;");
        for (char c = 'a'; c < 'i'; c++) {
            eight.append("franchisee ").append(c).append(" 0 0;");
        }
        Check.dueLoadError(eight + "franchisee", 4, eight.length());
        Check.dueLoadError(eight + "franchisee a 0 0;", 4, eight.length());
    }

    private static void areaErrors() {
        Check.dueLoadError("area", 1, 4);
        Check.dueLoadError("area a 0 0 1 1;", 3, 5);
        Check.dueLoadError("area a 0 0 1 1;" + ONE, 3, 5);
        Check.dueLoadError(ONE + "area 1 0 0 1 1;", 1, 31);
        Check.dueLoadError(ONE + "area a 30 0 31 1;", 2, 33);
        Check.dueLoadError(ONE + "area a 0 30 1 31;", 2, 35);
        Check.dueLoadError(ONE + "area a 5 0 5 1;", 2, 37);
        Check.dueLoadError(ONE + "area a 5 0 31 1;", 2, 37);
        Check.dueLoadError(ONE + "area a 5 6 7 6;", 2, 39);
        Check.dueLoadError(ONE + "area a 5 6 7 31;", 2, 39);
        Check.dueLoadError(ONE + "area a 0 0 1 1 1;", 1, 41);
        Check.dueLoadError(ONE + "area a 0 0 1;", 1, 38);
        int start = TWO.length();
        Check.dueLoadError(TWO + "area b 1 1 3 3;", 5, start + 13);
        Check.dueLoadError(TWO + "area b 0 0 30 30", 5, start + 14);
        Check.dueLoadError(TWO + "area b 1 1 3 1;", 2, start + 13);
        Check.due("an area beside another", 5, Check.load(new FranchiseLedger(), TWO + "area b 2 0 4 2;"));
        Check.due("an area below another", 5, Check.load(new FranchiseLedger(), TWO + "area b 0 2 2 4;"));
    }

    private static void outletErrors() {
        Check.dueLoadError("outlet a 0 0;", 3, 7);
        int start = TWO.length();
        Check.dueLoadError(TWO + "outlet a 30 0;", 2, start + 9);
        Check.dueLoadError(TWO + "outlet a 0 30;", 2, start + 11);
        Check.dueLoadError(TWO + "outlet a 2 0;", 5, start + 11);
        Check.dueLoadError(TWO + "outlet b 0 0;", 5, start + 11);
        Check.dueLoadError(TWO + "outlet a 0 2", 5, start + 11);
        Check.dueLoadError(TWO + "outlet a 1 1;outlet a 1 1;", 5, start + 24);
        Check.dueLoadError(TWO + "outlet a 1 1 1;", 1, start + 13);
        Check.due("outlets in two cells", 6, Check.load(new FranchiseLedger(), TWO + "outlet a 1 1;outlet a 1 0;"));
        StringBuilder full = new StringBuilder(ONE + "area a 0 0 30 1;");
        for (int i = 0; i < 16; i++) {
            full.append("outlet a ").append(i).append(" 0;");
        }
        Check.dueLoadError(full + "outlet", 4, full.length());
        Check.dueLoadError(full + "outlet zed 99 99;", 4, full.length());
    }

    private static void termErrors() {
        Check.dueLoadError("credit 5001 0;", 2, 7);
        Check.dueLoadError("credit 5000 10000;", 2, 12);
        Check.dueLoadError("credit 5000;", 1, 11);
        Check.dueLoadError("interest 501;", 2, 9);
        Check.dueLoadError("admin 2001;", 2, 6);
        Check.dueLoadError("fee 10000;", 2, 4);
        Check.dueLoadError("delay 13;", 2, 6);
        Check.dueLoadError("worth 1000;", 2, 6);
        Check.dueLoadError("worth;", 1, 5);
        Check.dueLoadError("worth 5 5;", 1, 8);
    }

    private static void tokenErrors() {
        Check.dueLoadError("sell", 1, 0);
        for (String word : new String[] {"xlan", "plax", "plxn", "pla", "plann"}) {
            Check.dueLoadError(word + " 0 0;", 1, 0);
        }
        Check.dueLoadError(";", 1, 0);
        Check.dueLoadError("5;", 1, 0);
        Check.dueLoadError("  Plan 0 0;", 1, 2);
        Check.dueLoadError("plan 0 0;;", 1, 9);
        Check.dueLoadError("sales 0 0;", 1, 0);
        Check.dueLoadError("fee\t5;", 1, 3);
        Check.dueLoadError("fee 5;\u0000", 1, 6);
        Check.dueLoadError("fee \u00ff;", 1, 4);
        Check.dueLoadError("fee -5;", 1, 4);
        Check.dueLoadError("fee 5,", 1, 5);
        Check.dueLoadError("fee 0000005;", 1, 4);
        Check.dueLoadError("fee 99999999999999999999;", 1, 4);
        Check.dueLoadError("fee 999999;", 2, 4);
        Check.dueLoadError("planplanplan 0 0;", 1, 0);
        Check.dueLoadError("planx 0 0;", 1, 0);
        Check.dueLoadError("feex;", 1, 0);
    }

    private static void errorsOfTheLastReading() {
        FranchiseLedger x = new FranchiseLedger();
        Check.load(x, "fee");
        Check.due("errorCode after load", 1, x.errorCode());
        Check.find(x, "a");
        Check.due("find leaves the code", 1, x.errorCode());
        Check.due("find leaves the position", 3, x.errorPosition());
        Check.loadJournal(x, "pay zed 5;");
        Check.due("errorCode after loadJournal", 3, x.errorCode());
        Check.due("errorPosition after loadJournal", 4, x.errorPosition());
        Check.load(x, "fee 5;");
        Check.due("no error", 0, x.errorCode());
        Check.due("no position", NONE, x.errorPosition());
        Check.load(x, "fee 10000;");
        Check.due("errorCode after a second load", 2, x.errorCode());
        Check.loadJournal(x, "");
        Check.due("no error after loadJournal", 0, x.errorCode());
        Check.due("no position after loadJournal", NONE, x.errorPosition());
    }

    private static void finding() {
        FranchiseLedger x = Check.ledger("plan 0 0;franchisee ab 0 0;franchisee a 0 0;franchisee abcdefghij 0 0;");
        Check.due("find ab", 0, Check.find(x, "ab"));
        Check.due("find a", 1, Check.find(x, "a"));
        Check.due("find the longest name", 2, Check.find(x, "abcdefghij"));
        Check.due("find a longer one", NONE, Check.find(x, "abcdefghijk"));
        Check.due("find b", NONE, Check.find(x, "b"));
        Check.due("find with a space before", NONE, Check.find(x, " a"));
        Check.due("find with a space behind", NONE, Check.find(x, "a "));
        Check.due("find nothing", NONE, Check.find(x, ""));
        Check.put(x, "a");
        x.find();
        Check.due("find empties the buffer", NONE, x.truncateInput(1));
        Check.put(x, "zed");
        x.find();
        Check.due("find empties it also without a find", NONE, x.truncateInput(1));
    }
}
