/** Promises 61 and 62: snapshots. */
public final class SnapshotTest {
    private static final String SYSTEM = "plan 1000 1000;plan 0 0;franchisee a 0 50;franchisee b 0 10;area a 0 0 4 4;"
            + "area b 4 0 8 4;outlet a 1 1;outlet b 5 2;credit 1000 50;delay 3;";

    public static void main(String[] args) {
        slots();
        whatIsRestored();
        twoCourses();
        whatIsNotRestored();
        snapshotsOfANewObject();
        Check.end();
    }

    private static void slots() {
        FranchiseLedger x = Check.ledger(SYSTEM);
        for (int slot : new int[] {-1, 2, Integer.MIN_VALUE, Integer.MAX_VALUE}) {
            Check.due("saveSnapshot", false, x.saveSnapshot(slot));
            Check.due("restoreSnapshot", false, x.restoreSnapshot(slot));
        }
        Check.due("nothing was saved in slot 0", false, x.restoreSnapshot(0));
        Check.due("nothing was saved in slot 1", false, x.restoreSnapshot(1));
        x.pay(0, 1);
        Check.due("save in slot 0", true, x.saveSnapshot(0));
        Check.due("still nothing in slot 1", false, x.restoreSnapshot(1));
        x.pay(0, 1);
        Check.due("save in slot 1", true, x.saveSnapshot(1));
        x.pay(0, 1);
        Check.due("restore slot 0", true, x.restoreSnapshot(0));
        Check.due("its balance", -1, x.balance(0));
        Check.due("restore slot 1", true, x.restoreSnapshot(1));
        Check.due("its balance", -2, x.balance(0));
        x.pay(0, 7);
        Check.due("the snapshot stays in its slot", true, x.restoreSnapshot(1));
        Check.due("its balance", -2, x.balance(0));
        x.pay(0, 7);
        x.saveSnapshot(1);
        x.pay(0, 7);
        x.restoreSnapshot(1);
        Check.due("a later snapshot replaces the earlier one", -9, x.balance(0));
        x.restoreSnapshot(0);
        Check.due("but not that of the other slot", -1, x.balance(0));
    }

    private static void whatIsRestored() {
        FranchiseLedger x = Check.ledger(SYSTEM);
        x.reportSales(0, 100000);
        x.closeMonth();
        x.campaign(1000);
        x.grant(0, 2000);
        x.deliver(0, 4, 0, 5000);
        x.requestTransfer(1, 30, 70);
        x.vote(1, 0, true);
        x.vote(1, 1, true);
        String before = sights(x);
        x.saveSnapshot(0);
        change(x);
        String changed = sights(x);
        x.restoreSnapshot(0);
        Check.due("all is as it was saved", before, sights(x));
        Check.due("which it was not before", false, before.equals(changed));
        Check.due("the votes too", FranchiseLedger.NONE, x.vote(1, 0, true));
        Check.due("so this is the third yes", FranchiseLedger.APPROVED, x.vote(1, 2, true));
        Check.due("the price too", true, x.exercise(1));
        Check.due("of the buyer", -70, x.balance(1));
        Check.due("the month can be closed again", 2, x.closeMonth());
        Check.due("with the delivery", 500, x.invoice(0, 1, 3));
    }

    /** Two courses from one state, in which the same rows are filled differently. */
    private static void twoCourses() {
        FranchiseLedger x = Check.ledger(SYSTEM);
        x.saveSnapshot(0);
        course(x, 0, 0, 33, 70);
        String first = sights(x);
        x.saveSnapshot(1);
        x.restoreSnapshot(0);
        Check.due("months that are closed no longer do not count", 0, x.ranked(0));
        course(x, 1, 3, 44, 90);
        Check.due("another course", false, first.equals(sights(x)));
        x.restoreSnapshot(1);
        Check.due("the first course", first, sights(x));
        Check.due("its transfer", true, x.exercise(0));
        Check.due("its price", -70, x.balance(0));
        x.restoreSnapshot(1);
        for (int member = 1; member < 3; member++) {
            x.vote(0, member, true);
        }
        Check.due("its votes", FranchiseLedger.APPROVED, x.transferState(0));
        x.closeMonth();
        x.closeMonth();
        Check.due("its wait", 1, x.transferWait(0));
        x.closeMonth();
        x.closeMonth();
        Check.due("its generation", 1, x.generation(0));
        Check.due("its buyer", 33, x.worth(0));
        x.restoreSnapshot(0);
        Check.due("the generation of the beginning", 0, x.generation(0));
        Check.due("the worth of the beginning", 50, x.worth(0));
        Check.due("the transfer of the beginning", FranchiseLedger.NO_TRANSFER, x.transferState(0));
    }

    private static void course(FranchiseLedger x, int cell, int months, int worth, int price) {
        x.openOutlet(0, cell, cell + 1);
        x.reportSales(1, 1000 + 500 * months);
        for (int i = 0; i <= months; i++) {
            x.closeMonth();
        }
        x.requestTransfer(0, worth, price);
        x.vote(0, 0, cell == 0);
        x.vote(0, 1 + cell, cell == 0 && months > 0);
        if (cell == 0) {
            x.withdraw(0);
            x.requestTransfer(0, worth, price);
            x.vote(0, 0, true);
        }
    }

    private static void change(FranchiseLedger x) {
        x.setPlan(0, 1);
        x.cede(1, 0, 4, 0, 5, 4);
        x.openOutlet(0, 0, 0);
        x.reportSales(1, 40000);
        x.deliver(0, 6, 0, 700);
        x.deliver(1, 0, 0, 700);
        x.withdraw(1);
        x.closeMonth();
        x.closeMonth();
        x.closeMonth();
        x.terminate(0);
        x.exercise(1);
        x.campaign(300);
        x.grant(1, 400);
    }

    private static String sights(FranchiseLedger x) {
        StringBuilder text = new StringBuilder();
        text.append("month ").append(x.month()).append(" outlets ").append(x.count(2)).append(" fund ")
                .append(x.fundBalance()).append(" owed ").append(x.totalOwed()).append(" first ").append(x.ranked(0));
        for (int kind = 0; kind < 3; kind++) {
            text.append(" spent ").append(x.spent(kind));
        }
        for (int f = 0; f < 2; f++) {
            text.append("\nof ").append(f).append(": ").append(x.planOf(f)).append(' ').append(x.worth(f)).append(' ')
                    .append(x.status(f)).append(' ').append(x.balance(f)).append(' ').append(x.generation(f)).append(' ')
                    .append(x.monthsOverdue(f)).append(' ').append(x.area(f)).append(' ').append(x.perimeter(f))
                    .append(' ').append(x.contributions(f)).append(' ').append(x.allowance(f)).append(' ')
                    .append(x.nationalShare(f)).append(' ').append(x.transferState(f)).append(' ')
                    .append(x.transferWait(f)).append(' ').append(x.creditDue(f, 1 - f)).append(' ')
                    .append(x.predictDue(f, 100));
            for (int month = 0; month < x.month(); month++) {
                text.append(' ').append(x.salesOf(f, month));
                for (int part = 0; part < 7; part++) {
                    text.append(' ').append(x.invoice(f, month, part));
                }
            }
        }
        for (int outlet = 0; outlet < x.count(2); outlet++) {
            text.append("\noutlet ").append(x.outletOwner(outlet)).append(' ').append(x.outletCell(outlet)).append(' ')
                    .append(x.sales(outlet));
        }
        return text.toString();
    }

    private static void whatIsNotRestored() {
        FranchiseLedger x = Check.ledger(SYSTEM);
        x.closeMonth();
        x.formatInvoice(0, 0);
        Check.loadJournal(x, "close;close;");
        x.saveSnapshot(0);
        x.runJournal(1);
        x.pay(0, 5);
        x.closeMonth();
        int length = x.formatInvoice(0, 2);
        Check.load(x, "x");
        Check.put(x, "bob");
        x.restoreSnapshot(0);
        Check.due("the input buffer", 3, x.truncateInput(3));
        Check.due("the error", 1, x.errorCode());
        Check.due("its position", 0, x.errorPosition());
        Check.due("the journal", 1, x.count(3));
        Check.due("the formatted text", '5', x.formattedByte(length - 1));
        Check.due("its minus sign", '-', x.formattedByte(length - 5));
    }

    private static void snapshotsOfANewObject() {
        FranchiseLedger x = new FranchiseLedger();
        Check.due("save", true, x.saveSnapshot(0));
        x.closeMonth();
        Check.due("restore", true, x.restoreSnapshot(0));
        Check.due("month", 0, x.month());
        Check.load(x, SYSTEM);
        Check.due("a load removes it", false, x.restoreSnapshot(0));
        x.saveSnapshot(0);
        Check.load(x, "y");
        Check.due("a load with an error does not", true, x.restoreSnapshot(0));
    }
}
