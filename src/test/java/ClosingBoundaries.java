/** The description's sentences on months, the closing, the fund, transfers and the journal. */
final class ClosingBoundaries {
    private static final int NONE = FranchiseLedger.NONE;
    private static final int HERE = Sentences.DESCRIPTION;
    // A royalty of a tenth for a and b, and of nothing for c.
    private static final String SYSTEM = "plan 0 1000;plan 1000 0;franchisee a 0 50;franchisee b 0 60;franchisee c 1 70;"
            + "area a 0 0 2 1;area b 2 0 4 1;area c 4 0 6 1;outlet a 0 0;outlet b 2 0;outlet c 4 0;outlet a 1 0;";

    private ClosingBoundaries() {
    }

    static void test() {
        Sentences.test(HERE, ClosingBoundaries::months, "MONTHS are numbered from 0; the present month is 0 at first. There "
                + "are 60 months; when all are closed, the present month is 60.");
        Sentences.test(HERE, ClosingBoundaries::salesOfAMonth, "Sales. Each outlet has sales in the present month (0 at "
                + "first, at most 10000000).");
        Sentences.test(HERE, ClosingBoundaries::remembered, "A delivery of an outlet of franchisee f into a cell that "
                + "belongs to another franchisee g, where both are ACTIVE, is remembered for the pair (f, g) with its "
                + "amount.");
        Sentences.test(HERE, ClosingBoundaries::credits, "The credit due from f to g is the credit rate of the sum of these "
                + "amounts in the present month, but at most the credit cap.");
        Sentences.test(HERE, ClosingBoundaries::stateBefore, "CLOSING the present month: for each franchisee that is ACTIVE, "
                + "the following amounts are calculated, all from the state before the closing: royalty (of its plan, for "
                + "the sum of the sales of its outlets), contribution (the advertising rate of this sum),",
                "credits paid (the sum of the credits due from it), credits received (the sum of the credits due to it), "
                + "and due (royalty + contribution + interest + credits paid - credits received).");
        Sentences.test(HERE, ClosingBoundaries::interest, "interest (the interest rate of its balance if this is positive, "
                + "otherwise 0)");
        Sentences.test(HERE, ClosingBoundaries::overdue, "If its balance is positive before, its overdue months increase by "
                + "1, otherwise they become 0. Then due is added to its balance.");
        Sentences.test(HERE, ClosingBoundaries::others, "For all other franchisees these amounts are 0.");
        Sentences.test(HERE, ClosingBoundaries::adminOfTheSum, "The contributions of all franchisees go to the fund; the "
                + "admin rate of their sum is spent as ADMIN.");
        Sentences.test(HERE, ClosingBoundaries::transfersDone, "Then each transfer that is APPROVED and was requested at "
                + "least delay months ago (present month minus the month of the request) is done: its state becomes DONE, "
                + "the franchisee's worth becomes that of the buyer, its generation increases by 1, its overdue months "
                + "become 0, and the transfer fee is added to its balance.");
        Sentences.test(HERE, ClosingBoundaries::afterwards, "The balances behind all this are the balances of the invoices "
                + "of this month. Then the sales of all franchisees are recorded for this month, the sales of all outlets "
                + "become 0, the deliveries are forgotten, and the present month increases by 1.");
        Sentences.test(HERE, ClosingBoundaries::fund, "FUND. It has contributions (of each franchisee) and spending of three "
                + "kinds: ADMIN, NATIONAL and LOCAL. The balance of the fund is all contributions minus all spending; it is "
                + "never negative.");
        Sentences.test(HERE, ClosingBoundaries::allowances, "The allowance of a franchisee is half of its contributions "
                + "(rounded down) minus its grants.");
        Sentences.test(HERE, ClosingBoundaries::oneTransfer, "TRANSFERS. A franchisee has at most one transfer at a time. "
                + "Its state is NO_TRANSFER, REQUESTED, APPROVED, REJECTED, DONE or EXERCISED; it is open if it is "
                + "REQUESTED or APPROVED.");
        Sentences.test(HERE, ClosingBoundaries::committee, "A committee of 5 members, numbered from 0, votes on a requested "
                + "transfer; each member votes at most once.");
        Sentences.test(HERE, ClosingBoundaries::journal, "JOURNAL. The journal is a list of at most 40 entries that have not "
                + "been executed yet, empty at first.");
    }

    private static void months() {
        FranchiseLedger x = Check.ledger(SYSTEM);
        Check.due("at first", 0, x.month());
        for (int month = 0; month < 60; month++) {
            x.reportSales(0, month);
            Check.due("closing", month + 1, x.closeMonth());
            Check.due("the month closed just now", month, x.salesOf(0, month));
        }
        Check.due("when all are closed", 60, x.month());
        Check.dueThrow("there is no 61st month", Check.ISE, x::closeMonth);
        Check.due("the present month stays", 60, x.month());
        monthsOfAll();
    }

    /** As many months of as many franchisees as there can be, each of which is recorded on its own. */
    private static void monthsOfAll() {
        FranchiseLedger x = Check.ledger(Ledgers.eightText());
        for (int month = 0; month < 60; month++) {
            for (int f = 0; f < 8; f++) {
                x.reportSales(f, 1000 * f + month);
            }
            Check.due("closing", month + 1, x.closeMonth());
        }
        for (int month = 0; month < 60; month++) {
            for (int f = 0; f < 8; f++) {
                Check.due("sales of " + f + " in month " + month, 1000 * f + month, x.salesOf(f, month));
                Check.due("balance of " + f + " in month " + month, x.invoice(f, month, 6),
                        (month == 0 ? 0 : x.invoice(f, month - 1, 6)) + x.invoice(f, month, 5));
            }
        }
        Check.due("the last balance of the last one", x.balance(7), x.invoice(7, 59, 6));
    }

    private static void salesOfAMonth() {
        FranchiseLedger x = Check.ledger(SYSTEM);
        for (int outlet = 0; outlet < 4; outlet++) {
            Check.due("at first", 0, x.sales(outlet));
        }
        Check.due("at most", 0, x.reportSales(0, 10000000));
        Check.due("as reported", 10000000, x.sales(0));
        Check.dueThrow("more", Check.IAE, () -> x.reportSales(0, 10000001));
        Check.due("more by a delivery", FranchiseLedger.FULL, x.deliver(0, 0, 0, 1));
        Check.due("of an opened outlet", 0, x.sales(x.openOutlet(2, 5, 0)));
    }

    private static void remembered() {
        FranchiseLedger x = Check.ledger(SYSTEM + "credit 5000 9999;delay 9;");
        x.deliver(0, 2, 0, 100);
        Check.due("from a to b", 50, x.creditDue(0, 1));
        Check.due("not from b to a", 0, x.creditDue(1, 0));
        x.deliver(0, 1, 0, 100);
        Check.due("into its own territory", 0, x.creditDue(0, 0));
        x.deliver(0, 6, 0, 100);
        x.deliver(0, 29, 29, 100);
        Check.due("into cells of none", 50, x.creditDue(0, 1) + x.creditDue(0, 2));
        x.deliver(3, 3, 0, 100);
        Check.due("by another outlet of a", 100, x.creditDue(0, 1));
        x.requestTransfer(2, 0, 0);
        x.exercise(2);
        x.deliver(0, 4, 0, 100);
        Check.due("into cells of a company", 0, x.creditDue(0, 2));
        x.deliver(2, 0, 0, 100);
        Check.due("by a company", 0, x.creditDue(2, 0));
        Check.due("the sales count all the same", 100, x.sales(2));
    }

    private static void credits() {
        String system = SYSTEM + "credit 1 1;";
        FranchiseLedger x = Check.ledger(system);
        x.deliver(0, 2, 0, 4999);
        Check.due("0.4999 cents", 0, x.creditDue(0, 1));
        x.deliver(3, 2, 0, 1);
        Check.due("0.5 cents of the sum", 1, x.creditDue(0, 1));
        x.deliver(0, 2, 0, 989999);
        Check.due("99.4999 cents", 99, x.creditDue(0, 1));
        x.deliver(0, 2, 0, 1);
        Check.due("99.5 cents", 100, x.creditDue(0, 1));
        x.deliver(3, 2, 0, 9000000);
        Check.due("at most the cap", 100, x.creditDue(0, 1));
        x.deliver(1, 0, 0, 5000);
        Check.due("the other way", 1, x.creditDue(1, 0));
        x.closeMonth();
        Check.due("of the present month only", 0, x.creditDue(0, 1));
        FranchiseLedger none = Check.ledger(SYSTEM + "credit 5000 0;");
        none.deliver(0, 2, 0, 10000000);
        Check.due("a cap of 0", 0, none.creditDue(0, 1));
        FranchiseLedger free = Check.ledger(SYSTEM + "credit 0 9999;");
        free.deliver(0, 2, 0, 10000000);
        Check.due("a rate of 0", 0, free.creditDue(0, 1));
        FranchiseLedger most = Check.ledger(SYSTEM + "credit 5000 9999;");
        most.deliver(0, 2, 0, 10000000);
        Check.due("the greatest cap", 999900, most.creditDue(0, 1));
    }

    private static void dueParts(FranchiseLedger x, int franchisee, int month, long... parts) {
        for (int part = 0; part < parts.length; part++) {
            Check.due("part " + part + " of " + franchisee + " in month " + month, parts[part],
                    x.invoice(franchisee, month, part));
        }
    }

    /** The deliveries of all three cross, so that an order among them would show. */
    private static void stateBefore() {
        FranchiseLedger x = Check.ledger(SYSTEM + "credit 1000 9999;interest 500;");
        x.reportSales(0, 4);
        x.reportSales(3, 1);
        x.reportSales(1, 4);
        x.reportSales(2, 5);
        x.closeMonth();
        dueParts(x, 0, 0, 1, 0, 0, 0, 0, 1, 1);
        dueParts(x, 1, 0, 0, 0, 0, 0, 0, 0, 0);
        dueParts(x, 2, 0, 0, 1, 0, 0, 0, 1, 1);
        x.deliver(0, 2, 0, 1000);
        x.deliver(0, 4, 0, 2000);
        x.deliver(1, 0, 0, 4000);
        x.deliver(2, 1, 0, 8000);
        x.deliver(2, 3, 0, 16000);
        x.closeMonth();
        dueParts(x, 0, 1, 300, 0, 0, 300, 1200, -600, -599);
        dueParts(x, 1, 1, 400, 0, 0, 400, 1700, -900, -900);
        dueParts(x, 2, 1, 0, 2400, 0, 2400, 200, 4600, 4601);
        x.closeMonth();
        dueParts(x, 2, 2, 0, 0, 230, 0, 0, 230, 4831);
    }

    private static void interest() {
        FranchiseLedger x = Check.ledger(SYSTEM + "interest 500;");
        x.reportSales(0, 100);
        x.closeMonth();
        Check.due("not on what the same closing adds", 0, x.invoice(0, 0, 2));
        x.closeMonth();
        Check.due("on 10 cents: 0.5", 1, x.invoice(0, 1, 2));
        x.pay(0, 2);
        x.closeMonth();
        Check.due("on 9 cents: 0.45", 0, x.invoice(0, 2, 2));
        x.pay(0, 9);
        x.closeMonth();
        Check.due("on 0", 0, x.invoice(0, 3, 2));
        x.pay(0, 1000000);
        x.closeMonth();
        Check.due("on a negative balance", 0, x.invoice(0, 4, 2));
        Check.due("which stays", -1000000, x.balance(0));
    }

    private static void overdue() {
        FranchiseLedger x = Check.ledger(SYSTEM);
        x.reportSales(0, 10);
        x.closeMonth();
        Check.due("0 before the closing", 0, x.monthsOverdue(0));
        Check.due("due is added", 1, x.balance(0));
        x.closeMonth();
        Check.due("1 cent before the closing", 1, x.monthsOverdue(0));
        x.reportSales(0, 10);
        x.closeMonth();
        Check.due("once more", 2, x.monthsOverdue(0));
        x.pay(0, 2);
        Check.due("a payment leaves them", 2, x.monthsOverdue(0));
        x.reportSales(0, 10);
        x.closeMonth();
        Check.due("0 before the closing, 1 cent behind it", 0, x.monthsOverdue(0));
        x.closeMonth();
        x.pay(0, 2);
        x.closeMonth();
        Check.due("a negative balance", 0, x.monthsOverdue(0));
    }

    private static void others() {
        FranchiseLedger x = Ledgers.BUSY.get();
        int terminated = x.monthsOverdue(Ledgers.CY);
        long owed = x.balance(Ledgers.CY);
        long company = x.balance(Ledgers.DI);
        x.reportSales(4, 5000);
        x.closeMonth();
        dueParts(x, Ledgers.CY, 4, 0, 0, 0, 0, 0, 0, owed);
        dueParts(x, Ledgers.DI, 4, 0, 0, 0, 0, 0, 0, company);
        Check.due("it owes something", true, owed > 0);
        Check.due("but has no more overdue months", terminated, x.monthsOverdue(Ledgers.CY));
        Check.due("no contribution of a company", 1000, x.contributions(Ledgers.DI));
        Check.due("an active one has amounts", true, x.invoice(Ledgers.ANN, 4, 2) > 0);
    }

    private static void adminOfTheSum() {
        FranchiseLedger x = Check.ledger(SYSTEM + "admin 2000;");
        x.setPlan(0, 1);
        x.setPlan(1, 1);
        x.reportSales(0, 10);
        x.reportSales(1, 10);
        x.closeMonth();
        Check.due("0.4 cents of 2", 0, x.spent(FranchiseLedger.ADMIN));
        x.reportSales(0, 10);
        x.reportSales(1, 10);
        x.reportSales(2, 10);
        x.closeMonth();
        Check.due("0.6 cents of 3", 1, x.spent(FranchiseLedger.ADMIN));
        Check.due("contributions of a", 2, x.contributions(0));
        Check.due("contributions of c", 1, x.contributions(2));
        Check.due("the fund", 5 - 1, x.fundBalance());
        x.closeMonth();
        Check.due("nothing more of nothing", 1, x.spent(FranchiseLedger.ADMIN));
    }

    private static void transfersDone() {
        for (int delay = 0; delay <= 12; delay += 3) {
            FranchiseLedger x = Check.ledger(SYSTEM + "fee 3;interest 100;delay " + delay + ";");
            x.closeMonth();
            x.requestTransfer(0, 999, 5);
            Ledgers.decide(x, 0, true);
            x.requestTransfer(1, 5, 5);
            x.vote(1, 0, true);
            x.vote(1, 1, true);
            x.reportSales(0, 1000);
            for (int months = 0; months < delay; months++) {
                x.closeMonth();
                Check.due("too early", FranchiseLedger.APPROVED, x.transferState(0));
                Check.due("no fee yet", true, x.balance(0) < 300);
            }
            int overdue = x.monthsOverdue(0);
            long owed = x.balance(0);
            Check.due("overdue before", Math.max(0, delay - 1), overdue);
            x.closeMonth();
            Check.due("done", FranchiseLedger.DONE, x.transferState(0));
            Check.due("worth", 999, x.worth(0));
            Check.due("generation", 1, x.generation(0));
            Check.due("overdue months", 0, x.monthsOverdue(0));
            Check.due("balance", owed + x.invoice(0, delay + 1, 5) + 300, x.balance(0));
            Check.due("a requested one is not done", FranchiseLedger.REQUESTED, x.transferState(1));
            Check.due("its worth stays", 60, x.worth(1));
            x.closeMonth();
            Check.due("it is done once", 1, x.generation(0));
        }
    }

    private static void afterwards() {
        FranchiseLedger x = Check.ledger(SYSTEM + "fee 3;credit 1000 9999;");
        x.requestTransfer(0, 1, 0);
        Ledgers.decide(x, 0, true);
        x.reportSales(0, 1000);
        x.reportSales(3, 500);
        x.deliver(1, 0, 0, 70);
        x.closeMonth();
        Check.due("the fee is in the balance of the invoice", 150 - 7 + 300, x.invoice(0, 0, 6));
        Check.due("but not in what is due", 143, x.invoice(0, 0, 5));
        Check.due("sales of a", 1500, x.salesOf(0, 0));
        Check.due("sales of b", 70, x.salesOf(1, 0));
        Check.due("sales of c", 0, x.salesOf(2, 0));
        for (int outlet = 0; outlet < 4; outlet++) {
            Check.due("no sales", 0, x.sales(outlet));
        }
        Check.due("no deliveries", 0, x.creditDue(1, 0));
        Check.due("the month", 1, x.month());
        x.pay(0, 5);
        Check.due("an invoice stays as it was", 443, x.invoice(0, 0, 6));
        forgottenDeliveries();
    }

    /** At this rate a single cent that was not forgotten would show, and so would one that was forgotten too much. */
    private static void forgottenDeliveries() {
        FranchiseLedger x = Check.ledger(SYSTEM + "credit 5000 9999;");
        x.deliver(0, 2, 0, 1000);
        x.deliver(1, 4, 0, 1000);
        x.closeMonth();
        for (int from = 0; from < 3; from++) {
            for (int to = 0; to < 3; to++) {
                Check.due("nothing of " + from + " and " + to, 0, x.creditDue(from, to));
            }
        }
        x.deliver(0, 2, 0, 1);
        Check.due("half of a cent", 1, x.creditDue(0, 1));
    }

    private static void fund() {
        FranchiseLedger x = Check.ledger(SYSTEM + "admin 2000;");
        Check.due("empty", 0, x.fundBalance());
        x.reportSales(2, 1000);
        x.closeMonth();
        Check.due("contributions less admin", 100 - 20, x.fundBalance());
        Check.due("grant", true, x.grant(2, 30));
        Check.due("one cent too much", false, x.campaign(51));
        Check.due("campaign", true, x.campaign(50));
        Check.due("admin", 20, x.spent(FranchiseLedger.ADMIN));
        Check.due("national", 50, x.spent(FranchiseLedger.NATIONAL));
        Check.due("local", 30, x.spent(FranchiseLedger.LOCAL));
        Check.due("nothing is left", 0, x.fundBalance());
        Check.due("a grant of nothing", false, x.grant(2, 1));
        Check.due("a campaign of nothing", false, x.campaign(1));
        x.reportSales(2, 10);
        x.closeMonth();
        Check.due("0.2 cents of 1", 1, x.fundBalance());
    }

    private static void allowances() {
        long[][] halves = {{0, 0}, {1, 0}, {2, 1}, {3, 1}, {1001, 500}};
        for (long[] half : halves) {
            FranchiseLedger x = Check.ledger(SYSTEM);
            x.reportSales(2, half[0] * 10);
            x.closeMonth();
            Check.due("half of " + half[0], half[1], x.allowance(2));
        }
        FranchiseLedger x = Check.ledger(SYSTEM);
        x.reportSales(2, 30);
        x.closeMonth();
        x.grant(2, 1);
        Check.due("less a grant", 0, x.allowance(2));
        x.reportSales(2, 10);
        x.closeMonth();
        Check.due("half of the sum of 3 and 1", 1, x.allowance(2));
    }

    private static void oneTransfer() {
        FranchiseLedger x = Check.ledger(SYSTEM + "delay 1;");
        Check.due("no transfer", FranchiseLedger.NO_TRANSFER, x.transferState(0));
        Check.due("is not open", NONE, x.transferWait(0));
        x.requestTransfer(0, 1, 0);
        Check.due("requested", FranchiseLedger.REQUESTED, x.transferState(0));
        Check.due("is open", 1, x.transferWait(0));
        Check.due("so there is no second one", false, x.requestTransfer(0, 2, 0));
        Ledgers.decide(x, 0, true);
        Check.due("approved", FranchiseLedger.APPROVED, x.transferState(0));
        Check.due("is open too", 1, x.transferWait(0));
        Check.due("so there is no second one", false, x.requestTransfer(0, 2, 0));
        x.closeMonth();
        x.closeMonth();
        Check.due("done", FranchiseLedger.DONE, x.transferState(0));
        Check.due("is not open", NONE, x.transferWait(0));
        Check.due("the first buyer", 1, x.worth(0));
        Check.due("a second one", true, x.requestTransfer(0, 2, 0));
        Ledgers.decide(x, 0, false);
        Check.due("rejected", FranchiseLedger.REJECTED, x.transferState(0));
        Check.due("is not open", NONE, x.transferWait(0));
        Check.due("a third one", true, x.requestTransfer(0, 3, 0));
        x.exercise(0);
        Check.due("exercised", FranchiseLedger.EXERCISED, x.transferState(0));
        Check.due("is not open", NONE, x.transferWait(0));
    }

    private static void committee() {
        FranchiseLedger x = Check.ledger(SYSTEM);
        x.requestTransfer(0, 1, 0);
        Check.due("member 0", FranchiseLedger.REQUESTED, x.vote(0, 0, true));
        Check.due("again", NONE, x.vote(0, 0, true));
        Check.due("member 4", FranchiseLedger.REQUESTED, x.vote(0, 4, false));
        Check.due("again, the other way", NONE, x.vote(0, 4, true));
        Check.due("member 1", FranchiseLedger.REQUESTED, x.vote(0, 1, false));
        Check.due("member 2", FranchiseLedger.REQUESTED, x.vote(0, 2, true));
        Check.dueThrow("there is no member 5", Check.IAE, () -> x.vote(0, 5, true));
        Check.due("member 3, the fifth vote", FranchiseLedger.APPROVED, x.vote(0, 3, true));
        Check.due("not on an approved one", NONE, x.vote(0, 3, true));
    }

    private static void journal() {
        FranchiseLedger x = new FranchiseLedger();
        Check.due("empty at first", 0, x.count(3));
        Check.due("40 entries", 40, Check.loadJournal(x, "close;".repeat(40)));
        Check.due("a 41st", FranchiseLedger.TEXT_ERROR, Check.loadJournal(x, "close;".repeat(41)));
        x.runJournal(1);
        Check.due("an executed one has left", 39, x.count(3));
        x.runJournal(39);
        Check.due("all have", 0, x.count(3));
    }
}
