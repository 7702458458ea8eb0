/** Promises 39 to 52: balances, payments, terminations and the fund. */
final class MoneyBoundaries {
    private static final int NONE = FranchiseLedger.NONE;
    private static final String INDEX = "- `franchisee`: index of a franchisee";
    private static final String NO_FRANCHISEE = "Throws `IndexOutOfBoundsException` if there is no such franchisee";
    private static final String AMOUNT = "- `amount`: 1 to 1000000000";
    private static final String NO_AMOUNT = "Throws `IllegalArgumentException` if amount is out of range";
    private static final long[] NO_AMOUNTS = {0, -1, 1000000001L, Long.MIN_VALUE, Long.MAX_VALUE, 1L << 32, -(1L << 32)};
    // Contributions are a tenth of the sales.
    private static final String THREE = "plan 1000 0;franchisee a 0 0;franchisee b 0 0;franchisee c 0 0;area a 0 0 1 1;"
            + "area b 1 0 2 1;area c 2 0 3 1;outlet a 0 0;outlet b 1 0;outlet c 2 0;";

    private MoneyBoundaries() {
    }

    static void test() {
        Sentences.test(39, MoneyBoundaries::balances, "Returns the balance of a franchisee.", INDEX, "Returns the balance.",
                NO_FRANCHISEE);
        Sentences.test(40, MoneyBoundaries::owed, "Returns the sum of all positive balances.", "Returns the sum.");
        Sentences.test(41, MoneyBoundaries::paying, "Records a payment: the balance decreases by the amount.", INDEX, AMOUNT,
                "Returns the new balance.", NO_FRANCHISEE, NO_AMOUNT);
        Sentences.test(42, MoneyBoundaries::overdue, "Returns the number of overdue months of a franchisee.", INDEX,
                "Returns the number.", NO_FRANCHISEE);
        Sentences.test(43, MoneyBoundaries::payingOff, "Predicts in how many months a franchisee pays off its balance: in each "
                + "month the interest (at the interest rate) is added to the balance, and then the payment is subtracted, "
                + "until the balance is not positive; nothing else is added.", INDEX, "- `payment`: 1 to 1000000000",
                NO_FRANCHISEE, "Throws `IllegalArgumentException` if payment is out of range");
        Sentences.test(43, MoneyBoundaries::monthsToPayOff, "Returns the number of months, 0 if the balance is not positive "
                + "now; NONE if 120 months are not enough.");
        Sentences.test(44, MoneyBoundaries::terminating, "Terminates a franchisee: its status becomes TERMINATED, its outlets "
                + "are closed, its cells belong to none, and an open transfer becomes REJECTED.", INDEX, NO_FRANCHISEE);
        Sentences.test(44, MoneyBoundaries::notTerminating, "Returns true; false if it is not ACTIVE, or has fewer than 3 "
                + "overdue months.");
        Sentences.test(45, MoneyBoundaries::statuses, "Returns the status of a franchisee.", INDEX, "Returns ACTIVE, "
                + "TERMINATED or COMPANY.", NO_FRANCHISEE);
        Sentences.test(46, MoneyBoundaries::fund, "Returns the balance of the fund.", "Returns the balance.");
        Sentences.test(47, MoneyBoundaries::contributions, "Returns all contributions of a franchisee to the fund.", INDEX,
                "Returns the sum.", NO_FRANCHISEE);
        Sentences.test(48, MoneyBoundaries::spending, "Returns all spending of a kind.", "- `kind`: ADMIN, NATIONAL or LOCAL",
                "Returns the sum.", "Throws `IllegalArgumentException` if kind is none of these");
        Sentences.test(49, MoneyBoundaries::campaigns, "Spends an amount as NATIONAL.", AMOUNT, "Returns true; false if the "
                + "fund has not so much.", NO_AMOUNT);
        Sentences.test(50, MoneyBoundaries::grants, "Grants a franchisee an amount as LOCAL spending: the balance of the "
                + "franchisee decreases by it.", INDEX, AMOUNT, NO_FRANCHISEE, NO_AMOUNT);
        Sentences.test(50, MoneyBoundaries::noGrants, "Returns true; false if it is not ACTIVE, if the amount exceeds its "
                + "allowance, or if the fund has not so much.");
        Sentences.test(51, MoneyBoundaries::allowances, "Returns the allowance of a franchisee.", INDEX, "Returns the "
                + "allowance.", NO_FRANCHISEE);
        Sentences.test(52, MoneyBoundaries::shares, "Returns the share of a franchisee in all NATIONAL spending, divided by "
                + "contributions: each franchisee gets NATIONAL * its contributions / all contributions, rounded down; the "
                + "cents that are left go one each to the franchisees with the greatest remainders of these divisions, on a "
                + "tie to the lower index first.", INDEX, NO_FRANCHISEE);
        Sentences.test(52, MoneyBoundaries::noShares, "Returns the share; 0 if there are no contributions.");
    }

    /** The first franchisee owes this much, at this rate of interest. */
    private static FranchiseLedger owing(long balance, int interest) {
        FranchiseLedger x = Check.ledger("plan 0 1000;franchisee a 0 0;franchisee b 0 0;area a 0 0 2 1;area b 2 0 3 1;"
                + "outlet a 0 0;outlet a 1 0;outlet b 2 0;delay 9;interest " + interest + ";");
        x.reportSales(0, Math.min(balance * 10, 10000000));
        x.reportSales(1, Math.max(0, balance * 10 - 10000000));
        x.closeMonth();
        Check.due("the balance", balance, x.balance(0));
        return x;
    }

    private static FranchiseLedger contributed(String system, long... contributions) {
        FranchiseLedger x = Check.ledger(system);
        for (int i = 0; i < contributions.length; i++) {
            x.reportSales(i, contributions[i] * 10);
        }
        x.closeMonth();
        return x;
    }

    private static void balances() {
        Ledgers.dueFranchisees("balance", FranchiseLedger::balance);
        Check.due("at first", 0, Ledgers.FULL.get().balance(7));
        FranchiseLedger x = owing(10, 0);
        Check.due("another's", 0, x.balance(1));
        x.pay(0, 10);
        Check.due("paid", 0, x.balance(0));
        x.pay(0, 1);
        Check.due("negative", -1, x.balance(0));
    }

    private static void owed() {
        Check.due("a new object", 0, new FranchiseLedger().totalOwed());
        FranchiseLedger x = owing(1, 0);
        Check.due("a cent", 1, x.totalOwed());
        x.pay(1, 1000);
        Check.due("a negative balance does not count", 1, x.totalOwed());
        x.pay(0, 1);
        Check.due("nothing", 0, x.totalOwed());
        x.reportSales(0, 100);
        x.reportSales(2, 10200);
        x.closeMonth();
        Check.due("two positive balances", 10 + 20, x.totalOwed());
        FranchiseLedger busy = Ledgers.BUSY.get();
        Check.due("a terminated one owes too", busy.balance(Ledgers.ANN) + busy.balance(Ledgers.CY), busy.totalOwed());
    }

    private static void paying() {
        Ledgers.dueFranchisees("pay", (x, f) -> x.pay(f, 1));
        for (long amount : NO_AMOUNTS) {
            Ledgers.dueRefused("pay " + amount, Ledgers.BUSY, Check.IAE, x -> x.pay(Ledgers.ANN, amount));
            Ledgers.dueRefused("pay " + amount + " by nobody", Ledgers.BUSY, Check.IOOBE, x -> x.pay(5, amount));
        }
        FranchiseLedger x = owing(10, 0);
        Check.due("the least", 9, x.pay(0, 1));
        Check.due("the greatest", 9 - 1000000000L, x.pay(0, 1000000000L));
        Check.due("the new balance", 9 - 1000000000L, x.balance(0));
        Check.due("another's", 0, x.balance(1));
        for (int i = 0; i < 400; i++) {
            x.pay(1, 1000000000L);
        }
        Check.due("as often as can be", -400000000000L, x.balance(1));
        FranchiseLedger busy = Ledgers.BUSY.get();
        Check.due("by a terminated one", busy.balance(Ledgers.CY) - 5, busy.pay(Ledgers.CY, 5));
        Check.due("by a company", busy.balance(Ledgers.DI) - 5, busy.pay(Ledgers.DI, 5));
        Check.due("in month 60", -5, Ledgers.OVER.get().pay(Ledgers.ED, 5));
    }

    private static void overdue() {
        Ledgers.dueFranchisees("monthsOverdue", FranchiseLedger::monthsOverdue);
        FranchiseLedger x = owing(1, 0);
        Check.due("at first", 0, x.monthsOverdue(0));
        for (int month = 1; month < 60; month++) {
            x.closeMonth();
            Check.due("a cent is owed", month, x.monthsOverdue(0));
            Check.due("nothing is owed", 0, x.monthsOverdue(1));
        }
        Check.due("in month 60", 60, x.month());
        Check.due("of a terminated one", 3, Ledgers.BUSY.get().monthsOverdue(Ledgers.CY));
    }

    private static void payingOff() {
        Ledgers.dueFranchisees("payOff", (x, f) -> x.payOff(f, 1));
        for (long payment : NO_AMOUNTS) {
            Ledgers.dueRefused("payOff " + payment, Ledgers.BUSY, Check.IAE, x -> x.payOff(Ledgers.ANN, payment));
            Ledgers.dueRefused("payOff " + payment, Ledgers.BUSY, Check.IAE, x -> x.payOff(Ledgers.ED, payment));
        }
        FranchiseLedger x = owing(10000, 500);
        Check.due("with the interest", 1, x.payOff(0, 10500));
        Check.due("a cent less", 2, x.payOff(0, 10499));
        // 10500 - 5378 = 5122, and 256.1 of interest
        Check.due("two months", 2, x.payOff(0, 5378));
        Check.due("the interest is rounded: 5123 and 256", 3, x.payOff(0, 5377));
        Check.due("the greatest payment", 1, x.payOff(0, 1000000000L));
        x.reportSales(0, 10000000);
        Check.due("nothing else is added", 1, x.payOff(0, 10500));
        Check.due("nothing changes", 10000, x.balance(0));
        Check.due("0.45 of interest", 9, owing(9, 500).payOff(0, 1));
        Check.due("0.5 of interest", NONE, owing(10, 500).payOff(0, 1));
    }

    private static void monthsToPayOff() {
        Check.due("119 months", 119, owing(119, 0).payOff(0, 1));
        Check.due("120 months", 120, owing(120, 0).payOff(0, 1));
        Check.due("121 months", NONE, owing(121, 0).payOff(0, 1));
        Check.due("121 cents by 2", 61, owing(121, 0).payOff(0, 2));
        FranchiseLedger x = owing(1, 500);
        Check.due("1 cent", 1, x.payOff(0, 1));
        x.pay(0, 1);
        Check.due("0", 0, x.payOff(0, 1));
        x.pay(0, 1);
        Check.due("a negative balance", 0, x.payOff(0, 1000000000L));
        Check.due("it never ends", NONE, owing(1000000, 500).payOff(0, 1));
        Check.due("as much as the interest", NONE, owing(1000000, 500).payOff(0, 50000));
        Check.due("of a terminated one", 1, Ledgers.BUSY.get().payOff(Ledgers.CY, 1000000000L));
    }

    private static void terminating() {
        Ledgers.dueFranchisees("terminate", (x, f) -> Check.asLong(x.terminate(f)));
        FranchiseLedger x = Ledgers.BUSY.get();
        long balance = x.balance(Ledgers.ANN);
        Check.due("terminate", true, x.terminate(Ledgers.ANN));
        Check.due("status", FranchiseLedger.TERMINATED, x.status(Ledgers.ANN));
        Check.due("an outlet", NONE, x.outletOwner(0));
        Check.due("another", NONE, x.outletOwner(1));
        Check.due("outlets of others", Ledgers.BOB, x.outletOwner(2));
        Check.due("cells", 0, x.area(Ledgers.ANN));
        Check.due("a cell", NONE, x.owner(0, 0));
        Check.due("cells of others", 16, x.area(Ledgers.BOB));
        Check.due("the balance stays", balance, x.balance(Ledgers.ANN));
        Check.due("no transfer stays no transfer", FranchiseLedger.NO_TRANSFER, x.transferState(Ledgers.ANN));
        terminatingTransfers();
    }

    private static void terminatingTransfers() {
        for (int state = 0; state < 4; state++) {
            FranchiseLedger x = owing(1, 0);
            for (int i = 0; i < 3; i++) {
                x.closeMonth();
            }
            x.pay(0, 1);
            x.requestTransfer(0, 0, 0);
            if (state == 1 || state == 2) {
                Ledgers.decide(x, 0, state == 1);
            } else if (state == 3) {
                x.withdraw(0);
            }
            Check.due("terminate", true, x.terminate(0));
            Check.due("the transfer then", state == 3 ? FranchiseLedger.NO_TRANSFER : FranchiseLedger.REJECTED,
                    x.transferState(0));
            Check.due("is not open", NONE, x.transferWait(0));
        }
    }

    private static void notTerminating() {
        Ledgers.dueFalse("a terminated one", Ledgers.BUSY, x -> x.terminate(Ledgers.CY));
        Ledgers.dueFalse("a company", Ledgers.BUSY, x -> x.terminate(Ledgers.DI));
        Ledgers.dueFalse("not overdue", Ledgers.BUSY, x -> x.terminate(Ledgers.BOB));
        FranchiseLedger x = owing(1, 0);
        for (int months = 0; months < 3; months++) {
            Check.due(months + " months", false, x.terminate(0));
            Check.due("it stays active", FranchiseLedger.ACTIVE, x.status(0));
            Check.due("its outlet stays", 0, x.outletOwner(0));
            Check.due("its cells stay", 2, x.area(0));
            x.closeMonth();
        }
        Check.due("3 months", true, x.terminate(0));
        FranchiseLedger four = owing(1, 0);
        for (int i = 0; i < 4; i++) {
            four.closeMonth();
        }
        four.pay(0, 1);
        Check.due("4 months, and a balance of 0", true, four.terminate(0));
        FranchiseLedger company = owing(1, 0);
        for (int i = 0; i < 3; i++) {
            company.closeMonth();
        }
        company.pay(0, 1);
        company.requestTransfer(0, 0, 0);
        company.exercise(0);
        Check.due("a company with 3 months", false, company.terminate(0));
    }

    private static void statuses() {
        Ledgers.dueFranchisees("status", FranchiseLedger::status);
        int[] statuses = {FranchiseLedger.ACTIVE, FranchiseLedger.ACTIVE, FranchiseLedger.TERMINATED, FranchiseLedger.COMPANY,
            FranchiseLedger.ACTIVE};
        for (int f = 0; f < 5; f++) {
            Check.due("status of " + f, statuses[f], Ledgers.BUSY.get().status(f));
        }
    }

    private static void fund() {
        Check.due("a new object", 0, new FranchiseLedger().fundBalance());
        FranchiseLedger x = contributed(THREE + "admin 2000;", 5, 5);
        Check.due("less admin", 8, x.fundBalance());
        x.campaign(8);
        Check.due("not below 0", 0, x.fundBalance());
        Check.due("of all franchisees, whatever their status", 20000 + 3000 + 10000 + 1000 - 3400 - 1000 - 500,
                Ledgers.BUSY.get().fundBalance());
    }

    private static void contributions() {
        Ledgers.dueFranchisees("contributions", FranchiseLedger::contributions);
        long[] all = {20000, 3000, 10000, 1000, 0};
        for (int f = 0; f < 5; f++) {
            Check.due("contributions of " + f, all[f], Ledgers.BUSY.get().contributions(f));
        }
        FranchiseLedger x = contributed(THREE, 7);
        x.reportSales(0, 50);
        x.closeMonth();
        Check.due("of all months", 12, x.contributions(0));
        x.campaign(12);
        Check.due("spending leaves them", 12, x.contributions(0));
    }

    private static void spending() {
        for (int kind : new int[] {-1, 3, Integer.MIN_VALUE, Integer.MAX_VALUE}) {
            Ledgers.dueRefused("spent " + kind, Ledgers.BUSY, Check.IAE, x -> x.spent(kind));
        }
        FranchiseLedger x = Ledgers.BUSY.get();
        Check.due("admin", 3400, x.spent(FranchiseLedger.ADMIN));
        Check.due("national", 1000, x.spent(FranchiseLedger.NATIONAL));
        Check.due("local", 500, x.spent(FranchiseLedger.LOCAL));
        x.campaign(7);
        x.grant(Ledgers.ANN, 3);
        Check.due("all of national", 1007, x.spent(FranchiseLedger.NATIONAL));
        Check.due("all of local", 503, x.spent(FranchiseLedger.LOCAL));
        x.reportSales(1, 3000);
        x.reportSales(0, 0);
        x.reportSales(2, 0);
        x.closeMonth();
        Check.due("all of admin: a tenth of 150", 3415, x.spent(FranchiseLedger.ADMIN));
    }

    private static void campaigns() {
        for (long amount : NO_AMOUNTS) {
            Ledgers.dueRefused("campaign " + amount, Ledgers.BUSY, Check.IAE, x -> Check.asLong(x.campaign(amount)));
        }
        long left = Ledgers.BUSY.get().fundBalance();
        Ledgers.dueFalse("a cent too much", Ledgers.BUSY, x -> x.campaign(left + 1));
        Ledgers.dueFalse("the greatest amount", Ledgers.BUSY, x -> x.campaign(1000000000L));
        Ledgers.dueFalse("a new object", Ledgers.EMPTY, x -> x.campaign(1));
        FranchiseLedger x = Ledgers.BUSY.get();
        Check.due("a cent", true, x.campaign(1));
        Check.due("all that is left", true, x.campaign(left - 1));
        Check.due("nothing is left", 0, x.fundBalance());
        Check.due("a cent more", false, x.campaign(1));
        Check.due("spent", 1000 + left, x.spent(FranchiseLedger.NATIONAL));
    }

    private static void grants() {
        Ledgers.dueFranchisees("grant", (x, f) -> Check.asLong(x.grant(f, 1)));
        for (long amount : NO_AMOUNTS) {
            Ledgers.dueRefused("grant " + amount, Ledgers.BUSY, Check.IAE, x -> Check.asLong(x.grant(Ledgers.ANN, amount)));
            Ledgers.dueRefused("grant " + amount, Ledgers.BUSY, Check.IAE, x -> Check.asLong(x.grant(Ledgers.CY, amount)));
        }
        FranchiseLedger x = Ledgers.BUSY.get();
        long balance = x.balance(Ledgers.ANN);
        Check.due("a cent", true, x.grant(Ledgers.ANN, 1));
        Check.due("the balance", balance - 1, x.balance(Ledgers.ANN));
        Check.due("all of the allowance", true, x.grant(Ledgers.ANN, 9499));
        Check.due("the balance then", balance - 9500, x.balance(Ledgers.ANN));
        Check.due("spent", 10000, x.spent(FranchiseLedger.LOCAL));
        Check.due("nothing is left", false, x.grant(Ledgers.ANN, 1));
    }

    private static void noGrants() {
        Ledgers.dueFalse("a terminated one", Ledgers.BUSY, x -> x.grant(Ledgers.CY, 1));
        Ledgers.dueFalse("a company", Ledgers.BUSY, x -> x.grant(Ledgers.DI, 1));
        Ledgers.dueFalse("without contributions", Ledgers.BUSY, x -> x.grant(Ledgers.ED, 1));
        Ledgers.dueFalse("a cent above the allowance", Ledgers.BUSY, x -> x.grant(Ledgers.ANN, 9501));
        Ledgers.dueFalse("the greatest amount", Ledgers.BUSY, x -> x.grant(Ledgers.ANN, 1000000000L));
        Check.due("the allowance", true, Ledgers.BUSY.get().grant(Ledgers.ANN, 9500));
        FranchiseLedger x = contributed(THREE, 100);
        x.campaign(60);
        Check.due("a cent more than the fund has", false, x.grant(0, 41));
        Check.due("the balance stays", 100, x.balance(0));
        Check.due("the allowance stays", 50, x.allowance(0));
        Check.due("nothing is spent", 0, x.spent(FranchiseLedger.LOCAL));
        Check.due("all that the fund has", true, x.grant(0, 40));
        Check.due("the allowance then", 10, x.allowance(0));
    }

    private static void allowances() {
        Ledgers.dueFranchisees("allowance", FranchiseLedger::allowance);
        long[] allowances = {9500, 1500, 5000, 500, 0};
        for (int f = 0; f < 5; f++) {
            Check.due("allowance of " + f, allowances[f], Ledgers.BUSY.get().allowance(f));
        }
        Check.due("half of a cent", 0, contributed(THREE, 1).allowance(0));
        Check.due("half of three", 1, contributed(THREE, 3).allowance(0));
    }

    private static void dueShares(FranchiseLedger x, long... shares) {
        for (int f = 0; f < shares.length; f++) {
            Check.due("share of " + f, shares[f], x.nationalShare(f));
        }
    }

    private static FranchiseLedger spent(long national, long... contributions) {
        FranchiseLedger x = contributed(THREE, contributions);
        Check.due("campaign", true, x.campaign(national));
        return x;
    }

    private static void shares() {
        Ledgers.dueFranchisees("nationalShare", FranchiseLedger::nationalShare);
        dueShares(spent(6, 1, 2, 3), 1, 2, 3);
        // 5/6, 1 + 4/6, 2 + 3/6: two cents are left
        dueShares(spent(5, 1, 2, 3), 1, 2, 2);
        // 4/6, 1 + 2/6, 2: one cent is left
        dueShares(spent(4, 1, 2, 3), 1, 1, 2);
        // 1/6, 2/6, 3/6
        dueShares(spent(1, 1, 2, 3), 0, 0, 1);
        dueShares(spent(1, 5, 5, 5), 1, 0, 0);
        dueShares(spent(2, 5, 5, 5), 1, 1, 0);
        dueShares(spent(3, 5, 5, 5), 1, 1, 1);
        // a tie of the last two: 2/9 and 3.5/9 each
        dueShares(spent(1, 20, 35, 35), 0, 1, 0);
        dueShares(spent(1, 0, 1, 1), 0, 1, 0);
        dueShares(spent(7, 0, 0, 7), 0, 0, 7);
        dueShares(spent(1, 0, 1, 0), 0, 1, 0);
        FranchiseLedger x = spent(5, 1, 2, 3);
        x.grant(2, 1);
        dueShares(x, 1, 2, 2);
        FranchiseLedger busy = Ledgers.BUSY.get();
        // 1000 of 34000: 588 + 8/34, 88 + 8/34, 294 + 4/34, 29 + 14/34; one cent is left
        dueShares(busy, 588, 88, 294, 30, 0);
    }

    private static void noShares() {
        dueShares(Check.ledger(THREE), 0, 0, 0);
        FranchiseLedger x = contributed(THREE, 0, 0, 0);
        dueShares(x, 0, 0, 0);
        dueShares(contributed(THREE, 5, 5, 5), 0, 0, 0);
        FranchiseLedger all = spent(10, 5, 5);
        dueShares(all, 5, 5, 0);
    }
}
