/** Promises 26 to 38: royalties and plans, sales and deliveries, the closing of months and its invoices. */
public final class SalesTest {
    private static final int NONE = FranchiseLedger.NONE;
    private static final int FULL = FranchiseLedger.FULL;
    private static final String SYSTEM = "plan 200 500 10000 400 50000 300;plan 0 1000;franchisee ann 0 50;"
            + "franchisee bob 1 10;franchisee cy 0 10;area ann 0 0 4 4;area bob 4 0 8 4;area cy 8 0 12 4;"
            + "outlet ann 1 1;outlet bob 5 2;outlet ann 2 2;credit 1000 50;interest 100;admin 1500;fee 200;delay 2;";

    public static void main(String[] args) {
        royalties();
        plans();
        cheapest();
        reporting();
        delivering();
        deliveriesThatAreNotRemembered();
        credits();
        closing();
        closingWithInterest();
        roundingInAClosing();
        closingOfOthers();
        creditsWithATerminatedOne();
        history();
        places();
        predicting();
        theLastMonth();
        wrongIndexes();
        Check.end();
    }

    private static void royalties() {
        FranchiseLedger x = Check.ledger("plan 0 500 10000 400 50000 300;plan 0 1;plan 0 3000 1 0 2 3000 3 1 4 2;plan 7 0;");
        Check.due("nothing", 0, x.royalty(0, 0));
        Check.due("0.45 cents", 0, x.royalty(0, 9));
        Check.due("0.5 cents", 1, x.royalty(0, 10));
        Check.due("up to the threshold", 50000, x.royalty(0, 1000000));
        Check.due("above it", 50000 + 4, x.royalty(0, 1000100));
        Check.due("rounded once: 50000 + 0.04", 50000, x.royalty(0, 1000001));
        Check.due("up to the second", 50000 + 160000, x.royalty(0, 5000000));
        Check.due("the greatest sales", 50000 + 160000 + 29850000, x.royalty(0, 1000000000L));
        Check.due("half a cent", 1, x.royalty(1, 5000));
        Check.due("less than half a cent", 0, x.royalty(1, 4999));
        Check.due("the base alone", 30, x.royalty(2, 100));
        Check.due("a rate of 0", 30, x.royalty(2, 200));
        Check.due("the third step", 60, x.royalty(2, 300));
        Check.due("all five steps: 30 + 0 + 30 + 0.01 + 1.92", 62, x.royalty(2, 10000));
        Check.due("no royalty", 0, x.royalty(3, 1000000000L));
        Check.dueThrow("no such plan", Check.IOOBE, () -> x.royalty(4, -1));
        Check.dueThrow("a negative plan", Check.IOOBE, () -> x.royalty(-1, 5));
        Check.dueThrow("negative sales", Check.IAE, () -> x.royalty(0, -1));
        Check.dueThrow("too many sales", Check.IAE, () -> x.royalty(0, 1000000001L));
    }

    private static void plans() {
        FranchiseLedger x = Check.ledger(SYSTEM);
        Check.due("plan of bob", 1, x.planOf(1));
        Check.due("plan of cy", 0, x.planOf(2));
        Check.due("setPlan", 1, x.setPlan(1, 0));
        Check.due("the new plan", 0, x.planOf(1));
        Check.due("the same plan again", 0, x.setPlan(1, 0));
        Check.dueThrow("no such plan", Check.IOOBE, () -> x.setPlan(1, 2));
        Check.dueThrow("a negative plan", Check.IOOBE, () -> x.setPlan(1, -1));
        Check.dueThrow("no such franchisee", Check.IOOBE, () -> x.setPlan(3, 0));
        Check.due("the plan stays", 0, x.planOf(1));
    }

    private static void cheapest() {
        FranchiseLedger x = Check.ledger("plan 0 1000;plan 500 500;plan 0 900 100 2000;plan 100 700 1000 0;"
                + "franchisee a 0 0;franchisee b 1 0;area a 0 0 3 3;outlet a 0 0;outlet a 1 0;");
        Check.due("without sales all are alike", 0, x.cheapestPlan(0));
        x.reportSales(0, 5000);
        x.reportSales(1, 5000);
        Check.due("both outlets: 1000, 1000, 900, 800", 3, x.cheapestPlan(0));
        x.reportSales(0, 0);
        x.reportSales(1, 2);
        Check.due("2 cents: nothing by each, for 0.2, 0.1 + 0.1, 0.18, 0.14 + 0.02", 0, x.cheapestPlan(0));
        x.reportSales(1, 5);
        Check.due("5 cents: 1, 0 + 0, ..", 1, x.cheapestPlan(0));
        Check.due("of one without outlets", 0, x.cheapestPlan(1));
        x.setPlan(0, 2);
        Check.due("whatever the plan is now", 1, x.cheapestPlan(0));
    }

    private static void reporting() {
        FranchiseLedger x = Check.ledger(SYSTEM);
        Check.due("the first report", 0, x.reportSales(0, 700));
        Check.due("its sales", 700, x.sales(0));
        Check.due("a second report", 700, x.reportSales(0, 10000000));
        Check.due("replaces the first", 10000000, x.sales(0));
        Check.due("no sales", 10000000, x.reportSales(0, 0));
        x.deliver(0, 5, 0, 30);
        Check.due("also those by deliveries", 30, x.reportSales(0, 5));
        Check.due("are replaced", 5, x.sales(0));
        Check.due("but remembered for credits", 3, x.creditDue(0, 1));
        Check.dueThrow("no such outlet", Check.IOOBE, () -> x.reportSales(3, -1));
        Check.dueThrow("a negative amount", Check.IAE, () -> x.reportSales(0, -1));
        Check.dueThrow("an amount that is too great", Check.IAE, () -> x.reportSales(0, 10000001));
        Check.due("the sales stay", 5, x.sales(0));
    }

    private static void delivering() {
        FranchiseLedger x = Check.ledger(SYSTEM);
        Check.due("a delivery", 100, x.deliver(0, 4, 0, 100));
        Check.due("another one", 1000, x.deliver(0, 29, 29, 900));
        Check.due("up to the limit", 10000000, x.deliver(0, 0, 0, 9999000));
        Check.due("beyond the limit", FULL, x.deliver(0, 4, 0, 1));
        Check.due("nothing changes then", 10000000, x.sales(0));
        Check.due("nor the credit", 10, x.creditDue(0, 1));
        Check.due("the greatest amount", 10000000, x.deliver(2, 4, 0, 10000000));
        Check.dueThrow("no such outlet", Check.IOOBE, () -> x.deliver(3, -1, 0, 0));
        Check.dueThrow("x out of range", Check.IAE, () -> x.deliver(0, 30, 0, 1));
        Check.dueThrow("y out of range", Check.IAE, () -> x.deliver(0, 0, -1, 1));
        Check.dueThrow("no amount", Check.IAE, () -> x.deliver(0, 0, 0, 0));
        Check.dueThrow("a negative amount", Check.IAE, () -> x.deliver(0, 0, 0, Long.MIN_VALUE));
        Check.dueThrow("an amount that is too great", Check.IAE, () -> x.deliver(0, 0, 0, 10000001));
    }

    private static void deliveriesThatAreNotRemembered() {
        FranchiseLedger x = Check.ledger(SYSTEM);
        x.deliver(0, 0, 3, 500);
        Check.due("into its own territory", 0, x.creditDue(0, 0));
        x.deliver(0, 12, 0, 500);
        Check.due("into no territory", 0, x.creditDue(0, 1) + x.creditDue(0, 2));
        x.requestTransfer(1, 0, 0);
        x.exercise(1);
        x.deliver(0, 4, 0, 500);
        Check.due("into a company's territory", 0, x.creditDue(0, 1));
        x.deliver(1, 0, 0, 500);
        Check.due("of a company", 0, x.creditDue(1, 0));
        Check.due("but its sales count", 500, x.sales(1));
        x.deliver(0, 8, 0, 500);
        Check.due("into another territory", 50, x.creditDue(0, 2));
    }

    private static void credits() {
        FranchiseLedger x = Check.ledger(SYSTEM);
        x.deliver(0, 4, 0, 4);
        Check.due("0.4 cents", 0, x.creditDue(0, 1));
        x.deliver(2, 5, 0, 1);
        Check.due("0.5 cents of two outlets", 1, x.creditDue(0, 1));
        x.deliver(2, 5, 0, 49989);
        Check.due("below the cap", 4999, x.creditDue(0, 1));
        x.deliver(0, 5, 0, 1);
        Check.due("49995 cents", 5000, x.creditDue(0, 1));
        x.deliver(0, 5, 0, 900000);
        Check.due("the cap", 5000, x.creditDue(0, 1));
        Check.due("not the other way", 0, x.creditDue(1, 0));
        Check.due("nor to a third one", 0, x.creditDue(0, 2));
        x.closeMonth();
        Check.due("forgotten", 0, x.creditDue(0, 1));
        FranchiseLedger none = Check.ledger("plan 0 0;franchisee a 0 0;franchisee b 0 0;area a 0 0 1 1;area b 1 0 2 1;"
                + "outlet a 0 0;credit 5000 0;");
        none.deliver(0, 1, 0, 10000000);
        Check.due("a cap of 0", 0, none.creditDue(0, 1));
    }

    private static void dueInvoice(FranchiseLedger x, int franchisee, int month, long... parts) {
        for (int part = 0; part < parts.length; part++) {
            Check.due("invoice of " + franchisee + " for " + month + ", part " + part, parts[part],
                    x.invoice(franchisee, month, part));
        }
    }

    private static void closing() {
        FranchiseLedger x = Check.ledger(SYSTEM);
        x.reportSales(0, 1000000);
        x.reportSales(2, 500000);
        x.reportSales(1, 200000);
        x.deliver(0, 5, 0, 20000);
        x.deliver(1, 8, 0, 40000);
        x.deliver(1, 0, 0, 10000);
        Check.due("closeMonth", 1, x.closeMonth());
        // ann: sales of 1520000, 50000 + 20800 of royalty
        dueInvoice(x, 0, 0, 70800, 30400, 0, 2000, 1000, 102200, 102200);
        dueInvoice(x, 1, 0, 25000, 0, 0, 5000, 2000, 28000, 28000);
        dueInvoice(x, 2, 0, 0, 0, 0, 0, 4000, -4000, -4000);
        Check.due("balance of ann", 102200, x.balance(0));
        Check.due("balance of cy", -4000, x.balance(2));
        Check.due("contributions of ann", 30400, x.contributions(0));
        Check.due("admin", 4560, x.spent(FranchiseLedger.ADMIN));
        Check.due("the fund", 30400 - 4560, x.fundBalance());
        Check.due("sales of ann in month 0", 1520000, x.salesOf(0, 0));
        Check.due("sales of bob in month 0", 250000, x.salesOf(1, 0));
        for (int outlet = 0; outlet < 3; outlet++) {
            Check.due("sales then", 0, x.sales(outlet));
        }
        Check.due("credit then", 0, x.creditDue(0, 1) + x.creditDue(1, 0) + x.creditDue(1, 2));
        Check.due("not overdue yet", 0, x.monthsOverdue(0));
    }

    private static void closingWithInterest() {
        FranchiseLedger x = Check.ledger(SYSTEM);
        x.reportSales(0, 100000);
        x.closeMonth();
        Check.due("balance", 7000, x.balance(0));
        x.pay(0, 6951);
        x.closeMonth();
        dueInvoice(x, 0, 1, 0, 0, 0, 0, 0, 0, 49);
        Check.due("overdue", 1, x.monthsOverdue(0));
        x.reportSales(0, 10);
        x.closeMonth();
        // royalty 0.5, contribution 0.2, interest 0.49
        dueInvoice(x, 0, 2, 1, 0, 0, 0, 0, 1, 50);
        x.closeMonth();
        dueInvoice(x, 0, 3, 0, 0, 1, 0, 0, 1, 51);
        Check.due("overdue thrice", 3, x.monthsOverdue(0));
        x.pay(0, 51);
        Check.due("a payment alone does not end it", 3, x.monthsOverdue(0));
        x.reportSales(0, 100000);
        x.closeMonth();
        Check.due("nothing was owed before the closing", 0, x.monthsOverdue(0));
        Check.due("but then", 7000, x.balance(0));
        x.pay(0, 10000);
        x.closeMonth();
        dueInvoice(x, 0, 5, 0, 0, 0, 0, 0, 0, -3000);
        Check.due("a negative balance is not overdue", 0, x.monthsOverdue(0));
    }

    private static void roundingInAClosing() {
        FranchiseLedger x = Check.ledger("plan 50 0;franchisee a 0 0;franchisee b 0 0;area a 0 0 1 1;area b 1 0 2 1;"
                + "outlet a 0 0;outlet b 1 0;admin 1000;");
        x.reportSales(0, 100);
        x.reportSales(1, 99);
        x.closeMonth();
        Check.due("half a cent", 1, x.invoice(0, 0, 1));
        Check.due("less than half a cent", 0, x.invoice(1, 0, 1));
        Check.due("admin of 1 cent", 0, x.spent(FranchiseLedger.ADMIN));
        x.reportSales(0, 500);
        x.reportSales(1, 500);
        x.closeMonth();
        Check.due("contribution of 2.5", 3, x.invoice(1, 1, 1));
        Check.due("admin of the sum, 6 cents", 1, x.spent(FranchiseLedger.ADMIN));
        Check.due("the fund", 1 + 6 - 1, x.fundBalance());
    }

    private static void closingOfOthers() {
        FranchiseLedger x = Check.ledger(SYSTEM);
        x.reportSales(1, 100000);
        x.closeMonth();
        x.pay(1, 10000);
        x.deliver(0, 4, 0, 10000);
        x.deliver(1, 0, 0, 10000);
        x.requestTransfer(1, 10, 300);
        Check.due("exercise", true, x.exercise(1));
        x.closeMonth();
        dueInvoice(x, 1, 1, 0, 0, 0, 0, 0, 0, -300);
        Check.due("sales of a company are recorded", 10000, x.salesOf(1, 1));
        Check.due("what ann pays stays due", 1000, x.invoice(0, 1, 3));
        Check.due("and what it receives", 1000, x.invoice(0, 1, 4));
        Check.due("no contribution of a company", 0, x.contributions(1));
    }

    private static void creditsWithATerminatedOne() {
        FranchiseLedger x = Check.ledger(SYSTEM);
        x.reportSales(0, 100000);
        for (int i = 0; i < 4; i++) {
            x.closeMonth();
        }
        long before = x.balance(0);
        x.deliver(0, 4, 0, 10000);
        x.deliver(1, 0, 0, 10000);
        Check.due("terminate", true, x.terminate(0));
        Check.due("the sales of a closed outlet stay until the closing", 10000, x.sales(0));
        Check.due("the credit too", 1000, x.creditDue(0, 1));
        Check.due("no report of a closed outlet", NONE, x.reportSales(0, 5));
        Check.due("no delivery of a closed outlet", NONE, x.deliver(0, 5, 5, 5));
        Check.due("no delivery of a closed outlet, however great", NONE, x.deliver(0, 5, 5, 10000000));
        Check.due("no prediction", 0, x.predictDue(0, 100));
        int overdue = x.monthsOverdue(0);
        x.closeMonth();
        dueInvoice(x, 0, 4, 0, 0, 0, 0, 0, 0, before);
        Check.due("its overdue months stay", overdue, x.monthsOverdue(0));
        Check.due("bob receives", 1000, x.invoice(1, 4, 4));
        Check.due("bob pays", 1000, x.invoice(1, 4, 3));
        Check.due("a closed outlet belongs to nobody", 0, x.salesOf(0, 4));
        Check.due("its sales are 0 then", 0, x.sales(0));
    }

    private static void history() {
        FranchiseLedger x = Check.ledger(SYSTEM);
        x.reportSales(1, 100);
        x.closeMonth();
        x.reportSales(1, 200);
        x.closeMonth();
        Check.due("month 0", 100, x.salesOf(1, 0));
        Check.due("month 1", 200, x.salesOf(1, 1));
        Check.due("month 1 of another", 0, x.salesOf(0, 1));
        Check.due("royalty of month 0", 10, x.invoice(1, 0, 0));
        Check.due("royalty of month 1", 20, x.invoice(1, 1, 0));
        for (int month : new int[] {-1, 2, 60, Integer.MIN_VALUE, Integer.MAX_VALUE}) {
            Check.dueThrow("salesOf", Check.IAE, () -> x.salesOf(1, month));
            Check.dueThrow("invoice", Check.IAE, () -> x.invoice(1, month, 0));
            Check.dueThrow("the index first", Check.IOOBE, () -> x.salesOf(3, month));
            Check.dueThrow("the index first", Check.IOOBE, () -> x.invoice(3, month, 0));
        }
        Check.dueThrow("no part", Check.IAE, () -> x.invoice(1, 0, 7));
        Check.dueThrow("a negative part", Check.IAE, () -> x.invoice(1, 0, -1));
    }

    private static void places() {
        FranchiseLedger x = Check.ledger(SYSTEM);
        x.openOutlet(2, 8, 0);
        Check.due("without closed months the lower index", 0, x.ranked(0));
        Check.due("the last place", 2, x.ranked(2));
        x.reportSales(3, 100);
        Check.due("the present month does not count", 0, x.ranked(0));
        x.closeMonth();
        Check.due("cy first", 2, x.ranked(0));
        Check.due("then ann", 0, x.ranked(1));
        Check.due("then bob", 1, x.ranked(2));
        x.reportSales(1, 60);
        x.closeMonth();
        x.reportSales(1, 40);
        x.closeMonth();
        Check.due("bob and cy have 100 each", 1, x.ranked(0));
        Check.due("so cy is second", 2, x.ranked(1));
        Check.due("and ann last", 0, x.ranked(2));
        for (int place : new int[] {-1, 3, 8, Integer.MIN_VALUE, Integer.MAX_VALUE}) {
            Check.due("no such place", NONE, x.ranked(place));
        }
    }

    private static void predicting() {
        FranchiseLedger x = Check.ledger(SYSTEM);
        x.reportSales(0, 100000);
        x.closeMonth();
        x.reportSales(0, 333);
        x.reportSales(2, 333);
        x.deliver(0, 4, 0, 1000);
        x.deliver(1, 0, 0, 500);
        // interest of 7000: 70; credits of 100 and 50
        Check.due("nothing of the sales", 70 + 100 - 50, x.predictDue(0, 0));
        Check.due("all of them: 83.3 and 33.32", 83 + 33 + 120, x.predictDue(0, 100));
        Check.due("half of them, 666 and 166: 41.6 and 16.64", 42 + 17 + 120, x.predictDue(0, 50));
        Check.due("three times: 249.9 and 99.96", 250 + 100 + 120, x.predictDue(0, 300));
        Check.due("one percent, 13 and 3: 0.8 and 0.32", 1 + 120, x.predictDue(0, 1));
        Check.due("of bob", 50 + 50 - 100, x.predictDue(1, 100));
        Check.due("a prediction changes nothing", 7000, x.balance(0));
        Check.due("nor the sales", 1333, x.sales(0));
        Check.dueThrow("a negative percentage", Check.IAE, () -> x.predictDue(0, -1));
        Check.dueThrow("a percentage that is too great", Check.IAE, () -> x.predictDue(0, 301));
        Check.dueThrow("the index first", Check.IOOBE, () -> x.predictDue(3, 301));
        long due = x.predictDue(0, 100);
        x.closeMonth();
        Check.due("the closing does what was predicted", due, x.invoice(0, 1, 5));
        x.pay(1, 1000000);
        x.requestTransfer(1, 5, 0);
        x.exercise(1);
        x.reportSales(1, 1000);
        Check.due("a company owes nothing new", 0, x.predictDue(1, 100));
    }

    private static void theLastMonth() {
        FranchiseLedger x = Check.ledger(SYSTEM);
        for (int month = 1; month <= 60; month++) {
            x.reportSales(1, month);
            Check.due("closeMonth", month, x.closeMonth());
        }
        Check.due("month", 60, x.month());
        Check.due("sales of the last month", 60, x.salesOf(1, 59));
        Check.due("sales of the first month", 1, x.salesOf(1, 0));
        Check.dueThrow("no closing", Check.ISE, () -> x.closeMonth());
        Check.dueThrow("no report", Check.ISE, () -> x.reportSales(0, 5));
        Check.dueThrow("no delivery", Check.ISE, () -> x.deliver(0, 0, 0, 5));
        Check.dueThrow("the index first", Check.IOOBE, () -> x.reportSales(3, 5));
        Check.dueThrow("the index first", Check.IOOBE, () -> x.deliver(3, 0, 0, 5));
        Check.dueThrow("the amount first", Check.IAE, () -> x.reportSales(0, -5));
        Check.dueThrow("the amount first", Check.IAE, () -> x.deliver(0, 0, 0, 0));
        Check.dueThrow("the cell first", Check.IAE, () -> x.deliver(0, 0, 30, 1));
        Check.dueThrow("month 60 is not closed", Check.IAE, () -> x.salesOf(0, 60));
        Check.due("month stays", 60, x.month());
        x.saveSnapshot(0);
        x.pay(1, 5);
        x.restoreSnapshot(0);
        Check.due("the history is restored", 60, x.salesOf(1, 59));
        Check.dueThrow("no closing then either", Check.ISE, () -> x.closeMonth());
    }

    private static void wrongIndexes() {
        FranchiseLedger x = Check.ledger(SYSTEM);
        x.closeMonth();
        for (int f : new int[] {-1, 3, 8, Integer.MIN_VALUE, Integer.MAX_VALUE}) {
            Check.dueThrow("planOf", Check.IOOBE, () -> x.planOf(f));
            Check.dueThrow("setPlan", Check.IOOBE, () -> x.setPlan(f, 0));
            Check.dueThrow("cheapestPlan", Check.IOOBE, () -> x.cheapestPlan(f));
            Check.dueThrow("reportSales", Check.IOOBE, () -> x.reportSales(f, 0));
            Check.dueThrow("deliver", Check.IOOBE, () -> x.deliver(f, 0, 0, 1));
            Check.dueThrow("sales", Check.IOOBE, () -> x.sales(f));
            Check.dueThrow("salesOf", Check.IOOBE, () -> x.salesOf(f, 0));
            Check.dueThrow("creditDue", Check.IOOBE, () -> x.creditDue(f, 0));
            Check.dueThrow("creditDue", Check.IOOBE, () -> x.creditDue(0, f));
            Check.dueThrow("creditDue", Check.IOOBE, () -> x.creditDue(f, f));
            Check.dueThrow("invoice", Check.IOOBE, () -> x.invoice(f, 0, 0));
            Check.dueThrow("predictDue", Check.IOOBE, () -> x.predictDue(f, 0));
        }
    }
}
