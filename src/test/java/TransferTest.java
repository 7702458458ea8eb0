/** Promises 53 to 60: transfers, the committee and the right of first refusal. */
public final class TransferTest {
    private static final int NONE = FranchiseLedger.NONE;
    private static final int NO_TRANSFER = FranchiseLedger.NO_TRANSFER;
    private static final int REQUESTED = FranchiseLedger.REQUESTED;
    private static final int APPROVED = FranchiseLedger.APPROVED;
    private static final int REJECTED = FranchiseLedger.REJECTED;
    private static final int DONE = FranchiseLedger.DONE;
    private static final int EXERCISED = FranchiseLedger.EXERCISED;
    private static final String SYSTEM = "plan 0 1000;franchisee a 0 50;franchisee b 0 10;area a 0 0 4 4;"
            + "area b 4 0 8 4;outlet a 1 1;outlet b 5 2;fee 200;worth 20;interest 100;";

    public static void main(String[] args) {
        requesting();
        requestingRefused();
        voting();
        votesOfTwoTransfers();
        exercising();
        withdrawing();
        doing();
        doingWithoutDelay();
        notDoing();
        wrongArguments();
        Check.end();
    }

    private static FranchiseLedger delayed(int delay) {
        return Check.ledger(SYSTEM + "delay " + delay + ";");
    }

    private static void decide(FranchiseLedger x, int franchisee, boolean yes) {
        for (int member = 0; member < 3; member++) {
            x.vote(franchisee, member, yes);
        }
    }

    private static void requesting() {
        FranchiseLedger x = delayed(2);
        Check.due("no transfer", NO_TRANSFER, x.transferState(0));
        Check.due("nothing to wait for", NONE, x.transferWait(0));
        Check.due("requestTransfer", true, x.requestTransfer(0, 20, 0));
        Check.due("requested", REQUESTED, x.transferState(0));
        Check.due("of the other", NO_TRANSFER, x.transferState(1));
        Check.due("wait", 2, x.transferWait(0));
        Check.due("the worth stays at first", 50, x.worth(0));
        x.closeMonth();
        Check.due("wait after a month", 1, x.transferWait(0));
        x.closeMonth();
        Check.due("wait after two", 0, x.transferWait(0));
        x.closeMonth();
        Check.due("wait after three", 0, x.transferWait(0));
        Check.due("still requested", REQUESTED, x.transferState(0));
        Check.due("the greatest numbers", true, x.requestTransfer(1, 999, 1000000000L));
    }

    private static void requestingRefused() {
        FranchiseLedger x = delayed(2);
        Check.due("below the least worth", false, x.requestTransfer(0, 19, 5));
        Check.due("no transfer then", NO_TRANSFER, x.transferState(0));
        x.requestTransfer(0, 20, 5);
        Check.due("a requested one is open", false, x.requestTransfer(0, 30, 5));
        decide(x, 0, true);
        Check.due("an approved one is open", false, x.requestTransfer(0, 30, 5));
        x.reportSales(1, 10);
        x.closeMonth();
        Check.due("a positive balance", false, x.requestTransfer(1, 30, 5));
        x.pay(1, 1);
        Check.due("a balance of 0", true, x.requestTransfer(1, 30, 5));
        decide(x, 1, false);
        Check.due("after a rejection", true, x.requestTransfer(1, 30, 5));
        x.exercise(1);
        Check.due("a company", false, x.requestTransfer(1, 30, 5));
        Check.due("its state stays", EXERCISED, x.transferState(1));
        terminated();
    }

    private static void terminated() {
        FranchiseLedger x = delayed(2);
        x.reportSales(0, 1000);
        for (int i = 0; i < 4; i++) {
            x.closeMonth();
        }
        x.terminate(0);
        x.pay(0, 1000);
        Check.due("a terminated one", false, x.requestTransfer(0, 30, 5));
    }

    private static void voting() {
        FranchiseLedger x = delayed(2);
        Check.due("without a transfer", NONE, x.vote(0, 0, true));
        x.requestTransfer(0, 20, 0);
        Check.due("the first yes", REQUESTED, x.vote(0, 4, true));
        Check.due("the same member", NONE, x.vote(0, 4, false));
        Check.due("the first no", REQUESTED, x.vote(0, 0, false));
        Check.due("the second no", REQUESTED, x.vote(0, 1, false));
        Check.due("the second yes", REQUESTED, x.vote(0, 2, true));
        Check.due("the third yes", APPROVED, x.vote(0, 3, true));
        Check.due("approved", APPROVED, x.transferState(0));
        Check.due("after the decision", NONE, x.vote(0, 3, true));
        x.withdraw(0);
        x.requestTransfer(0, 20, 0);
        Check.due("no member has voted", REQUESTED, x.vote(0, 4, false));
        Check.due("the second no", REQUESTED, x.vote(0, 3, false));
        Check.due("a yes", REQUESTED, x.vote(0, 2, true));
        Check.due("the third no", REJECTED, x.vote(0, 1, false));
        Check.due("rejected", REJECTED, x.transferState(0));
        Check.due("after the rejection", NONE, x.vote(0, 0, true));
        Check.due("a rejected one is not open", NONE, x.transferWait(0));
    }

    private static void votesOfTwoTransfers() {
        FranchiseLedger x = delayed(2);
        x.requestTransfer(0, 20, 0);
        x.requestTransfer(1, 20, 0);
        Check.due("for a", REQUESTED, x.vote(0, 0, true));
        Check.due("for b", REQUESTED, x.vote(1, 0, true));
        Check.due("for a", REQUESTED, x.vote(0, 1, true));
        Check.due("for a, the third", APPROVED, x.vote(0, 2, true));
        Check.due("for b, the second", REQUESTED, x.vote(1, 2, true));
    }

    private static void exercising() {
        FranchiseLedger x = delayed(2);
        Check.due("without a transfer", false, x.exercise(0));
        x.requestTransfer(0, 20, 700);
        x.closeMonth();
        Check.due("a month later", true, x.exercise(0));
        Check.due("company", FranchiseLedger.COMPANY, x.status(0));
        Check.due("the price", -700, x.balance(0));
        Check.due("exercised", EXERCISED, x.transferState(0));
        Check.due("not open", NONE, x.transferWait(0));
        Check.due("its outlet stays", 0, x.outletOwner(0));
        Check.due("its territory stays", 16, x.area(0));
        Check.due("the worth stays", 50, x.worth(0));
        Check.due("the generation stays", 0, x.generation(0));
        Check.due("not twice", false, x.exercise(0));
        x.requestTransfer(1, 20, 0);
        decide(x, 1, true);
        Check.due("an approved one", true, x.exercise(1));
        FranchiseLedger late = delayed(2);
        late.requestTransfer(0, 20, 700);
        late.closeMonth();
        late.closeMonth();
        Check.due("two months later", false, late.exercise(0));
        Check.due("still active", FranchiseLedger.ACTIVE, late.status(0));
        Check.due("still requested", REQUESTED, late.transferState(0));
        Check.due("no price", 0, late.balance(0));
        FranchiseLedger none = delayed(0);
        none.requestTransfer(0, 20, 700);
        Check.due("without a delay", false, none.exercise(0));
        FranchiseLedger rejected = delayed(2);
        rejected.requestTransfer(0, 20, 700);
        decide(rejected, 0, false);
        Check.due("a rejected one", false, rejected.exercise(0));
    }

    private static void withdrawing() {
        FranchiseLedger x = delayed(2);
        Check.due("without a transfer", false, x.withdraw(0));
        x.requestTransfer(0, 20, 700);
        Check.due("a requested one", true, x.withdraw(0));
        Check.due("no transfer", NO_TRANSFER, x.transferState(0));
        Check.due("not open", NONE, x.transferWait(0));
        Check.due("not twice", false, x.withdraw(0));
        x.requestTransfer(0, 20, 700);
        decide(x, 0, true);
        Check.due("an approved one", true, x.withdraw(0));
        for (int i = 0; i < 3; i++) {
            x.closeMonth();
        }
        Check.due("it is not done", 0, x.generation(0));
        x.requestTransfer(0, 20, 700);
        decide(x, 0, false);
        Check.due("a rejected one", false, x.withdraw(0));
        Check.due("stays rejected", REJECTED, x.transferState(0));
    }

    private static void doing() {
        FranchiseLedger x = delayed(2);
        x.requestTransfer(0, 77, 700);
        decide(x, 0, true);
        x.reportSales(0, 100000);
        x.closeMonth();
        Check.due("approved after a month", APPROVED, x.transferState(0));
        x.closeMonth();
        Check.due("approved after two", APPROVED, x.transferState(0));
        Check.due("overdue", 1, x.monthsOverdue(0));
        Check.due("worth", 50, x.worth(0));
        Check.due("nothing to wait for", 0, x.transferWait(0));
        x.closeMonth();
        Check.due("done", DONE, x.transferState(0));
        Check.due("the buyer's worth", 77, x.worth(0));
        Check.due("generation", 1, x.generation(0));
        Check.due("overdue months", 0, x.monthsOverdue(0));
        // 10000, then interest of 100 and of 101, and the fee of 200 dollars
        Check.due("balance", 10201 + 20000, x.balance(0));
        Check.due("the fee is not due", 101, x.invoice(0, 2, 5));
        Check.due("but in the balance of the invoice", 30201, x.invoice(0, 2, 6));
        Check.due("still active", FranchiseLedger.ACTIVE, x.status(0));
        Check.due("not open", NONE, x.transferWait(0));
        Check.due("no withdrawal", false, x.withdraw(0));
        Check.due("the other", 0, x.generation(1));
        x.pay(0, 30201);
        Check.due("a second transfer", true, x.requestTransfer(0, 20, 0));
        decide(x, 0, true);
        for (int i = 0; i < 3; i++) {
            x.closeMonth();
        }
        Check.due("generation then", 2, x.generation(0));
        Check.due("worth then", 20, x.worth(0));
        Check.due("fee then", 20000, x.balance(0));
    }

    private static void doingWithoutDelay() {
        FranchiseLedger x = delayed(0);
        x.requestTransfer(0, 77, 700);
        Check.due("nothing to wait for", 0, x.transferWait(0));
        decide(x, 0, true);
        x.closeMonth();
        Check.due("done at once", DONE, x.transferState(0));
        Check.due("the fee", 20000, x.balance(0));
    }

    private static void notDoing() {
        FranchiseLedger x = delayed(1);
        x.requestTransfer(0, 77, 700);
        x.vote(0, 0, true);
        x.vote(0, 1, true);
        x.requestTransfer(1, 77, 700);
        decide(x, 1, false);
        for (int i = 0; i < 4; i++) {
            x.closeMonth();
        }
        Check.due("requested", REQUESTED, x.transferState(0));
        Check.due("rejected", REJECTED, x.transferState(1));
        Check.due("no fee", 0, x.balance(0) + x.balance(1));
        Check.due("a late vote", APPROVED, x.vote(0, 2, true));
        x.closeMonth();
        Check.due("done with the next closing", DONE, x.transferState(0));
    }

    private static void wrongArguments() {
        FranchiseLedger x = delayed(1);
        Check.dueThrow("a negative worth", Check.IAE, () -> Check.asLong(x.requestTransfer(0, -1, 0)));
        Check.dueThrow("too much worth", Check.IAE, () -> Check.asLong(x.requestTransfer(0, 1000, 0)));
        Check.dueThrow("a negative price", Check.IAE, () -> Check.asLong(x.requestTransfer(0, 20, -1)));
        Check.dueThrow("too great a price", Check.IAE, () -> Check.asLong(x.requestTransfer(0, 20, 1000000001L)));
        Check.dueThrow("the index first", Check.IOOBE, () -> Check.asLong(x.requestTransfer(2, -1, -1)));
        Check.dueThrow("a negative member", Check.IAE, () -> x.vote(0, -1, true));
        Check.dueThrow("a sixth member", Check.IAE, () -> x.vote(0, 5, true));
        Check.dueThrow("the index first", Check.IOOBE, () -> x.vote(2, 5, true));
        for (int f : new int[] {-1, 2, 8, Integer.MIN_VALUE, Integer.MAX_VALUE}) {
            Check.dueThrow("requestTransfer", Check.IOOBE, () -> Check.asLong(x.requestTransfer(f, 20, 0)));
            Check.dueThrow("vote", Check.IOOBE, () -> x.vote(f, 0, true));
            Check.dueThrow("exercise", Check.IOOBE, () -> Check.asLong(x.exercise(f)));
            Check.dueThrow("withdraw", Check.IOOBE, () -> Check.asLong(x.withdraw(f)));
            Check.dueThrow("transferState", Check.IOOBE, () -> x.transferState(f));
            Check.dueThrow("transferWait", Check.IOOBE, () -> x.transferWait(f));
            Check.dueThrow("generation", Check.IOOBE, () -> x.generation(f));
            Check.dueThrow("worth", Check.IOOBE, () -> x.worth(f));
        }
    }
}
