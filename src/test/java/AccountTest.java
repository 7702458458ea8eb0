/** Promises 39 to 45: balances, payments, overdue months and the end of a contract. */
public final class AccountTest {
    private static final int NONE = FranchiseLedger.NONE;
    private static final String SYSTEM = "plan 0 1000;franchisee ann 0 50;franchisee bob 0 10;area ann 0 0 4 4;"
            + "area bob 4 0 8 4;outlet ann 1 1;outlet bob 5 2;outlet ann 0 0;credit 1000 50;interest 100;delay 5;";

    public static void main(String[] args) {
        balances();
        payingOff();
        payingOffWithoutInterest();
        overdue();
        terminating();
        terminatingRefused();
        terminatingWithATransfer();
        wrongIndexes();
        Check.end();
    }

    /** Franchisee 0 owes 10000, franchisee 1 has paid 300 too much. */
    private static FranchiseLedger withDebt() {
        FranchiseLedger x = Check.ledger(SYSTEM);
        x.reportSales(0, 100000);
        x.closeMonth();
        x.pay(1, 300);
        return x;
    }

    private static void balances() {
        FranchiseLedger x = withDebt();
        Check.due("balance", 10000, x.balance(0));
        Check.due("a negative balance", -300, x.balance(1));
        Check.due("totalOwed", 10000, x.totalOwed());
        Check.due("pay", 9999, x.pay(0, 1));
        Check.due("pay more than is owed", 9999 - 1000000000L, x.pay(0, 1000000000L));
        Check.due("balance then", 9999 - 1000000000L, x.balance(0));
        Check.due("nobody owes", 0, x.totalOwed());
        Check.dueThrow("no payment", Check.IAE, () -> x.pay(0, 0));
        Check.dueThrow("a negative payment", Check.IAE, () -> x.pay(0, -5));
        Check.dueThrow("a payment that is too great", Check.IAE, () -> x.pay(0, 1000000001L));
        Check.dueThrow("the index first", Check.IOOBE, () -> x.pay(2, 0));
        Check.due("balance stays", 9999 - 1000000000L, x.balance(0));
        FranchiseLedger both = Check.ledger(SYSTEM);
        both.reportSales(0, 1000);
        both.reportSales(1, 2000);
        both.closeMonth();
        Check.due("both owe", 300, both.totalOwed());
    }

    private static void payingOff() {
        FranchiseLedger x = withDebt();
        Check.due("at once, with the interest", 1, x.payOff(0, 10100));
        Check.due("one cent less", 2, x.payOff(0, 10099));
        Check.due("the greatest payment", 1, x.payOff(0, 1000000000L));
        Check.due("as much as the interest", NONE, x.payOff(0, 100));
        Check.due("a cent more is not enough in 120 months", NONE, x.payOff(0, 101));
        // balance 10000: 10100 - 5000 = 5100, 5151 - 5000 = 151, 153 - 5000
        Check.due("three months", 3, x.payOff(0, 5000));
        Check.due("a negative balance", 0, x.payOff(1, 1));
        Check.due("a prediction changes nothing", 10000, x.balance(0));
        Check.dueThrow("no payment", Check.IAE, () -> x.payOff(0, 0));
        Check.dueThrow("also without a balance", Check.IAE, () -> x.payOff(1, -1));
        Check.dueThrow("a payment that is too great", Check.IAE, () -> x.payOff(0, 1000000001L));
        Check.dueThrow("the index first", Check.IOOBE, () -> x.payOff(2, 0));
        // interest is rounded half up: 49 has none, 50 has one cent
        x.pay(0, 9951);
        Check.due("49 cents by one each month", 49, x.payOff(0, 1));
        x.pay(0, 49);
        Check.due("a balance of 0", 0, x.payOff(0, 1));
        FranchiseLedger fifty = withDebt();
        fifty.pay(0, 9950);
        Check.due("50 cents by one each month", NONE, fifty.payOff(0, 1));
    }

    private static void payingOffWithoutInterest() {
        FranchiseLedger x = Check.ledger("plan 0 1000;franchisee a 0 0;area a 0 0 1 1;outlet a 0 0;");
        x.reportSales(0, 1200);
        x.closeMonth();
        Check.due("120 months", 120, x.payOff(0, 1));
        x.reportSales(0, 10);
        x.closeMonth();
        Check.due("121 months", NONE, x.payOff(0, 1));
        Check.due("61 months", 61, x.payOff(0, 2));
    }

    private static void overdue() {
        FranchiseLedger x = withDebt();
        Check.due("nothing was owed before the first closing", 0, x.monthsOverdue(0));
        for (int months = 1; months <= 5; months++) {
            x.closeMonth();
            Check.due("months overdue", months, x.monthsOverdue(0));
            Check.due("but not of the other", 0, x.monthsOverdue(1));
        }
        x.pay(0, x.balance(0) - 1);
        x.closeMonth();
        Check.due("a cent is enough", 6, x.monthsOverdue(0));
        x.pay(0, x.balance(0));
        x.closeMonth();
        Check.due("a balance of 0", 0, x.monthsOverdue(0));
    }

    private static void terminating() {
        FranchiseLedger x = withDebt();
        for (int i = 0; i < 3; i++) {
            x.closeMonth();
        }
        long balance = x.balance(0);
        Check.due("status", FranchiseLedger.ACTIVE, x.status(0));
        Check.due("terminate", true, x.terminate(0));
        Check.due("status then", FranchiseLedger.TERMINATED, x.status(0));
        Check.due("its first outlet", NONE, x.outletOwner(0));
        Check.due("its second outlet", NONE, x.outletOwner(2));
        Check.due("the outlet of the other", 1, x.outletOwner(1));
        Check.due("its cells", 0, x.area(0));
        Check.due("one of them", NONE, x.owner(3, 3));
        Check.due("the cells of the other", 16, x.area(1));
        Check.due("its balance stays", balance, x.balance(0));
        Check.due("its overdue months stay", 3, x.monthsOverdue(0));
        Check.due("no transfer", FranchiseLedger.NO_TRANSFER, x.transferState(0));
        Check.due("terminate again", false, x.terminate(0));
        Check.due("it still owes", balance, x.totalOwed());
        Check.due("it can pay", balance - 7, x.pay(0, 7));
        Check.due("closing adds nothing", 5, x.closeMonth());
        Check.due("balance", balance - 7, x.balance(0));
    }

    private static void terminatingRefused() {
        FranchiseLedger x = withDebt();
        Check.due("not overdue", false, x.terminate(0));
        x.closeMonth();
        x.closeMonth();
        Check.due("two months", false, x.terminate(0));
        Check.due("status stays", FranchiseLedger.ACTIVE, x.status(0));
        Check.due("outlets stay", 0, x.outletOwner(0));
        Check.due("cells stay", 16, x.area(0));
        x.closeMonth();
        x.pay(0, 20000);
        x.requestTransfer(0, 0, 0);
        x.exercise(0);
        Check.due("three months, but a company", false, x.terminate(0));
        Check.due("status of a company", FranchiseLedger.COMPANY, x.status(0));
    }

    private static void terminatingWithATransfer() {
        for (int votes = 0; votes <= 3; votes += 3) {
            FranchiseLedger x = withDebt();
            for (int i = 0; i < 3; i++) {
                x.closeMonth();
            }
            x.pay(0, 20000);
            Check.due("requestTransfer", true, x.requestTransfer(0, 0, 0));
            for (int member = 0; member < votes; member++) {
                x.vote(0, member, true);
            }
            Check.due("terminate", true, x.terminate(0));
            Check.due("an open transfer", FranchiseLedger.REJECTED, x.transferState(0));
        }
        FranchiseLedger done = Check.ledger("plan 0 1000;franchisee a 0 0;area a 0 0 1 1;outlet a 0 0;");
        done.requestTransfer(0, 5, 0);
        for (int member = 0; member < 3; member++) {
            done.vote(0, member, true);
        }
        done.reportSales(0, 1000);
        for (int i = 0; i < 4; i++) {
            done.closeMonth();
        }
        Check.due("terminate", true, done.terminate(0));
        Check.due("a transfer that is done", FranchiseLedger.DONE, done.transferState(0));
    }

    private static void wrongIndexes() {
        FranchiseLedger x = Check.ledger(SYSTEM);
        for (int f : new int[] {-1, 2, 8, Integer.MIN_VALUE, Integer.MAX_VALUE}) {
            Check.dueThrow("balance", Check.IOOBE, () -> x.balance(f));
            Check.dueThrow("pay", Check.IOOBE, () -> x.pay(f, 1));
            Check.dueThrow("monthsOverdue", Check.IOOBE, () -> x.monthsOverdue(f));
            Check.dueThrow("payOff", Check.IOOBE, () -> x.payOff(f, 1));
            Check.dueThrow("terminate", Check.IOOBE, () -> Check.asLong(x.terminate(f)));
            Check.dueThrow("status", Check.IOOBE, () -> x.status(f));
        }
    }
}
