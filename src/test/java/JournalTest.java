/** Promises 8 to 11: the journal, its execution, count() and month(). */
public final class JournalTest {
    private static final String SYSTEM = "plan 1000 1000;franchisee ann 0 50;franchisee no 0 10;area ann 0 0 4 4;"
            + "area no 4 0 8 4;outlet ann 1 1;outlet no 5 2;credit 1000 50;delay 1;";

    public static void main(String[] args) {
        reading();
        readingErrors();
        running();
        failing();
        failingInTheLastMonth();
        counting();
        Check.end();
    }

    private static void reading() {
        FranchiseLedger x = Check.ledger(SYSTEM);
        Check.due("an empty journal", 0, Check.loadJournal(x, " \n"));
        Check.due("every kind of entry", 8, Check.loadJournal(x, "sales 15 100000;deliver 15 29 29 100000;pay ann 999999;"
                + "grant no 999999;campaign 999999;vote ann 4 yes;vote no 0 no;close;"));
        Check.due("its entries", 8, x.count(3));
        Check.due("the least numbers", 2, Check.loadJournal(x, "sales0 0;deliver0 0 0 1;"));
        Check.due("a journal replaces the one before", 2, x.count(3));
        Check.due("forty entries", 40, Check.loadJournal(x, "close;".repeat(40)));
        x.runJournal(3);
        Check.due("an error in a journal", FranchiseLedger.TEXT_ERROR, Check.loadJournal(x, "sales 1 1;x"));
        Check.due("keeps the journal", 37, x.count(3));
        Check.due("and the entries that were next", 1, x.runJournal(1));
        Check.due("an empty journal replaces too", 0, Check.loadJournal(x, ""));
        Check.due("so there is nothing left", 0, x.count(3));
        Check.due("and nothing to run", 0, x.runJournal(40));
        Check.due("month", 4, x.month());
    }

    private static void readingErrors() {
        FranchiseLedger x = Check.ledger(SYSTEM);
        Check.dueJournalError(x, "sell 0 0;", 1, 0);
        Check.dueJournalError(x, "xales 0 0;", 1, 0);
        Check.dueJournalError(x, "salex 0 0;", 1, 0);
        Check.dueJournalError(x, "vote ann 0 xes;", 1, 11);
        Check.dueJournalError(x, "plan 0 0;", 1, 0);
        Check.dueJournalError(x, ";", 1, 0);
        Check.dueJournalError(x, "close;;", 1, 6);
        Check.dueJournalError(x, "close", 1, 5);
        Check.dueJournalError(x, "close 5;", 1, 6);
        Check.dueJournalError(x, "sales 16 0;", 2, 6);
        Check.dueJournalError(x, "sales 0 100001;", 2, 8);
        Check.dueJournalError(x, "sales ann 0;", 1, 6);
        Check.dueJournalError(x, "sales 0;", 1, 7);
        Check.dueJournalError(x, "deliver 16 0 0 1;", 2, 8);
        Check.dueJournalError(x, "deliver 0 30 0 1;", 2, 10);
        Check.dueJournalError(x, "deliver 0 0 30 1;", 2, 12);
        Check.dueJournalError(x, "deliver 0 0 0 0;", 2, 14);
        Check.dueJournalError(x, "deliver 0 0 0 100001;", 2, 14);
        Check.dueJournalError(x, "pay zed 0;", 3, 4);
        Check.dueJournalError(x, "pay plan 1;", 1, 4);
        Check.dueJournalError(x, "pay worth 1;", 1, 4);
        Check.dueJournalError(x, "pay 0 1;", 1, 4);
        Check.dueJournalError(x, "pay ann 0;", 2, 8);
        Check.dueJournalError(x, "pay ann 1000000;", 1, 8);
        Check.dueJournalError(x, "grant zed 5;", 3, 6);
        Check.dueJournalError(x, "grant ann 0;", 2, 10);
        Check.dueJournalError(x, "campaign 0;", 2, 9);
        Check.dueJournalError(x, "campaign ann;", 1, 9);
        Check.dueJournalError(x, "vote zed 0 yes;", 3, 5);
        Check.dueJournalError(x, "vote ann 5 yes;", 2, 9);
        Check.dueJournalError(x, "vote ann 4 maybe;", 1, 11);
        Check.dueJournalError(x, "vote ann 4;", 1, 10);
        Check.dueJournalError(x, "vote ann 4 1;", 1, 11);
        Check.dueJournalError(x, "vote ann 4 yes", 1, 14);
        Check.dueJournalError(x, "close;".repeat(40) + "close", 4, 240);
        Check.dueJournalError(x, "close;".repeat(40) + " sales 99 99", 4, 241);
        Check.dueJournalError(x, "close;".repeat(40) + "open", 1, 240);
        Check.dueJournalError(x, "close;".repeat(40) + ";", 1, 240);
        Check.dueJournalError(new FranchiseLedger(), "pay ann 5;", 3, 4);
    }

    private static void running() {
        FranchiseLedger x = Check.ledger(SYSTEM);
        Check.loadJournal(x, "sales 0 1000;sales 1 500;deliver 0 5 0 100;close;pay ann 30;grant no 20;campaign 7;close;");
        Check.due("the first two", 2, x.runJournal(2));
        Check.due("six are left", 6, x.count(3));
        Check.due("sales of ann", 100000, x.sales(0));
        Check.due("sales of no", 50000, x.sales(1));
        Check.due("the delivery", 1, x.runJournal(1));
        Check.due("sales with it", 110000, x.sales(0));
        Check.due("its credit", 1000, x.creditDue(0, 1));
        Check.due("all that are left", 5, x.runJournal(40));
        Check.due("none is left", 0, x.count(3));
        Check.due("two months are closed", 2, x.month());
        Check.due("royalty, contribution and credit less the payment", 22000 + 1000 - 3000, x.balance(0));
        Check.due("less the credit and the grant", 10000 - 1000 - 2000, x.balance(1));
        Check.due("the campaign", 700, x.spent(FranchiseLedger.NATIONAL));
        Check.due("the grant", 2000, x.spent(FranchiseLedger.LOCAL));
        x.pay(0, 20000);
        x.requestTransfer(0, 0, 0);
        Check.loadJournal(x, "vote ann 0 yes;vote ann 1 no;vote ann 2 yes;vote ann 3 yes;close;close;");
        Check.due("three votes", 3, x.runJournal(3));
        Check.due("not yet decided", FranchiseLedger.REQUESTED, x.transferState(0));
        Check.due("the fourth", 1, x.runJournal(1));
        Check.due("the third yes", FranchiseLedger.APPROVED, x.transferState(0));
        Check.due("both closings", 2, x.runJournal(2));
        Check.due("the transfer", FranchiseLedger.DONE, x.transferState(0));
        Check.dueThrow("no entries", Check.IAE, () -> x.runJournal(0));
        Check.dueThrow("too many entries", Check.IAE, () -> x.runJournal(41));
        Check.dueThrow("fewer than none", Check.IAE, () -> x.runJournal(Integer.MIN_VALUE));
    }

    private static void failing() {
        FranchiseLedger x = Check.ledger(SYSTEM);
        Check.loadJournal(x, "sales 2 5;deliver 2 0 0 5;deliver 0 0 0 100000;deliver 0 0 0 1;grant ann 1;campaign 1;"
                + "vote ann 0 yes;pay ann 5;sales 0 7;");
        Check.due("there is no outlet 2", 0, x.runJournal(2));
        Check.due("the greatest sales", 1, x.runJournal(1));
        Check.due("more is not possible", 0, x.runJournal(1));
        Check.due("so the sales stay", 10000000, x.sales(0));
        Check.due("no allowance, no fund, no transfer", 0, x.runJournal(3));
        Check.due("failed entries are removed", 2, x.count(3));
        Check.due("the balance is as it was", 0, x.balance(0));
        Check.due("pay never fails", 2, x.runJournal(2));
        Check.due("the payment", -500, x.balance(0));
        Check.due("sales replace sales", 700, x.sales(0));
        x.requestTransfer(0, 5, 5);
        x.vote(0, 0, false);
        Check.loadJournal(x, "vote ann 0 yes;vote ann 1 yes;");
        Check.due("a member votes once", 1, x.runJournal(2));
        Check.loadJournal(x, "sales 1 9;deliver 1 0 0 9;pay no 9;grant no 1;");
        x.pay(1, 1);
        x.requestTransfer(1, 5, 0);
        x.exercise(1);
        Check.due("a company sells, delivers and pays, but has no grants", 3, x.runJournal(4));
        terminated();
    }

    private static void terminated() {
        FranchiseLedger x = Check.ledger(SYSTEM);
        x.reportSales(0, 100000);
        for (int i = 0; i < 4; i++) {
            x.closeMonth();
        }
        Check.due("terminate", true, x.terminate(0));
        Check.loadJournal(x, "sales 0 5;deliver 0 0 0 5;grant ann 1;pay ann 1;");
        Check.due("only pay does not fail", 1, x.runJournal(4));
        Check.due("the payment", 20000 - 100, x.balance(0));
    }

    private static void failingInTheLastMonth() {
        FranchiseLedger x = Check.ledger(SYSTEM);
        Check.loadJournal(x, "sales 0 1000;" + "close;".repeat(39));
        Check.due("39 closings", 40, x.runJournal(40));
        Check.loadJournal(x, "close;".repeat(23));
        Check.due("21 are left", 21, x.runJournal(40));
        Check.due("month", 60, x.month());
        Check.loadJournal(x, "close;sales 0 5;deliver 0 0 0 5;pay ann 1;campaign 1;grant ann 1;");
        Check.due("only the last three", 3, x.runJournal(40));
        Check.due("month stays", 60, x.month());
        Check.due("sales stay", 0, x.sales(0));
    }

    private static void counting() {
        FranchiseLedger x = Check.ledger(SYSTEM);
        Check.loadJournal(x, "close;close;close;");
        Check.due("plans", 1, x.count(0));
        Check.due("franchisees", 2, x.count(1));
        Check.due("outlets", 2, x.count(2));
        Check.due("entries", 3, x.count(3));
        Check.due("below the kinds", FranchiseLedger.NONE, x.count(-1));
        Check.due("above the kinds", FranchiseLedger.NONE, x.count(4));
        x.saveSnapshot(0);
        x.runJournal(2);
        Check.due("month", 2, x.month());
        x.restoreSnapshot(0);
        Check.due("the month is restored", 0, x.month());
        Check.due("the journal is not", 1, x.count(3));
    }
}
