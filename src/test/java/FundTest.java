/** Promises 46 to 52: the fund. */
public final class FundTest {
    private static final int ADMIN = FranchiseLedger.ADMIN;
    private static final int NATIONAL = FranchiseLedger.NATIONAL;
    private static final int LOCAL = FranchiseLedger.LOCAL;
    private static final String SYSTEM = "plan 1000 0;franchisee a 0 0;franchisee b 0 0;franchisee c 0 0;area a 0 0 2 2;"
            + "area b 2 0 4 2;area c 4 0 6 2;outlet a 0 0;outlet b 2 0;outlet c 4 0;delay 3;";

    public static void main(String[] args) {
        contributing();
        campaigns();
        grants();
        grantsFromAnEmptyFund();
        grantsToOthers();
        shares();
        sharesOfEqualContributions();
        greatShares();
        wrongArguments();
        Check.end();
    }

    private static FranchiseLedger contributed(String system, long... contributions) {
        FranchiseLedger x = Check.ledger(system);
        for (int i = 0; i < contributions.length; i++) {
            x.reportSales(i, contributions[i] * 10);
        }
        x.closeMonth();
        return x;
    }

    private static void contributing() {
        FranchiseLedger x = contributed(SYSTEM + "admin 1250;", 1000, 301, 0);
        Check.due("contributions of a", 1000, x.contributions(0));
        Check.due("contributions of b", 301, x.contributions(1));
        Check.due("contributions of c", 0, x.contributions(2));
        Check.due("admin: 162.625", 163, x.spent(ADMIN));
        Check.due("the fund", 1301 - 163, x.fundBalance());
        x.reportSales(0, 70);
        x.closeMonth();
        Check.due("contributions are added", 1007, x.contributions(0));
        Check.due("admin: 0.875", 164, x.spent(ADMIN));
        Check.due("the fund then", 1308 - 164, x.fundBalance());
        Check.due("nothing else was spent", 0, x.spent(NATIONAL) + x.spent(LOCAL));
        Check.due("admin: 0.4", 0, contributed(SYSTEM + "admin 2000;", 1, 1).spent(ADMIN));
        Check.due("admin: 0.6", 1, contributed(SYSTEM + "admin 2000;", 1, 1, 1).spent(ADMIN));
    }

    private static void campaigns() {
        FranchiseLedger x = contributed(SYSTEM, 1000);
        Check.due("too much", false, x.campaign(1001));
        Check.due("nothing is spent", 0, x.spent(NATIONAL));
        Check.due("a part", true, x.campaign(400));
        Check.due("the fund", 600, x.fundBalance());
        Check.due("more than is left", false, x.campaign(601));
        Check.due("all that is left", true, x.campaign(600));
        Check.due("national", 1000, x.spent(NATIONAL));
        Check.due("the fund is empty", 0, x.fundBalance());
        Check.due("a cent more", false, x.campaign(1));
        Check.due("the allowance stays", 500, x.allowance(0));
    }

    private static void grants() {
        FranchiseLedger x = contributed(SYSTEM, 1001, 100);
        Check.due("half, rounded down", 500, x.allowance(0));
        Check.due("of b", 50, x.allowance(1));
        Check.due("of c", 0, x.allowance(2));
        Check.due("more than the allowance", false, x.grant(0, 501));
        Check.due("the balance stays", 1001, x.balance(0));
        Check.due("a part", true, x.grant(0, 200));
        Check.due("the balance", 801, x.balance(0));
        Check.due("the allowance", 300, x.allowance(0));
        Check.due("local", 200, x.spent(LOCAL));
        Check.due("the fund", 901, x.fundBalance());
        Check.due("more than is left", false, x.grant(0, 301));
        Check.due("all of it", true, x.grant(0, 300));
        Check.due("nothing is left", 0, x.allowance(0));
        Check.due("the other's stays", 50, x.allowance(1));
        Check.due("of another", true, x.grant(1, 50));
        Check.due("local then", 550, x.spent(LOCAL));
        Check.due("without contributions", false, x.grant(2, 1));
        x.reportSales(0, 10);
        x.closeMonth();
        Check.due("half of 1002", 1, x.allowance(0));
    }

    private static void grantsFromAnEmptyFund() {
        FranchiseLedger x = contributed(SYSTEM, 1000);
        x.campaign(700);
        Check.due("the fund has not so much", false, x.grant(0, 301));
        Check.due("the balance stays", 1000, x.balance(0));
        Check.due("the allowance stays", 500, x.allowance(0));
        Check.due("it has as much", true, x.grant(0, 300));
        Check.due("the fund is empty", 0, x.fundBalance());
        Check.due("the allowance is not", 200, x.allowance(0));
        Check.due("but there is nothing", false, x.grant(0, 1));
    }

    private static void grantsToOthers() {
        FranchiseLedger x = contributed(SYSTEM, 1000);
        x.pay(0, 1000);
        x.requestTransfer(0, 0, 0);
        x.exercise(0);
        Check.due("to a company", false, x.grant(0, 1));
        Check.due("its allowance stays", 500, x.allowance(0));
    }

    private static void dueShares(FranchiseLedger x, long... shares) {
        for (int i = 0; i < shares.length; i++) {
            Check.due("share of " + i, shares[i], x.nationalShare(i));
        }
    }

    private static void shares() {
        FranchiseLedger x = contributed(SYSTEM, 100, 200, 400);
        dueShares(x, 0, 0, 0);
        x.campaign(1);
        // 100/700, 200/700, 400/700: the cent goes to the greatest remainder
        dueShares(x, 0, 0, 1);
        x.campaign(1);
        // 200/700, 400/700, 1 + 100/700
        dueShares(x, 0, 1, 1);
        x.campaign(2);
        // 400/700, 1 + 100/700, 2 + 200/700
        dueShares(x, 1, 1, 2);
        x.campaign(1);
        // 500/700, 1 + 300/700, 2 + 600/700: two cents are left
        dueShares(x, 1, 1, 3);
        x.campaign(2);
        dueShares(x, 1, 2, 4);
        x.grant(0, 10);
        dueShares(x, 1, 2, 4);
        dueShares(Check.ledger(SYSTEM), 0, 0, 0);
    }

    private static void sharesOfEqualContributions() {
        FranchiseLedger x = contributed(SYSTEM, 50, 50, 50);
        x.campaign(1);
        dueShares(x, 1, 0, 0);
        x.campaign(1);
        dueShares(x, 1, 1, 0);
        x.campaign(1);
        dueShares(x, 1, 1, 1);
        x.campaign(97);
        dueShares(x, 34, 33, 33);
        FranchiseLedger none = contributed(SYSTEM, 0, 50, 50);
        none.campaign(3);
        dueShares(none, 0, 2, 1);
    }

    /** Products of both factors must not exceed a long. */
    private static void greatShares() {
        StringBuilder system = new StringBuilder("plan 1000 0;franchisee a 0 0;franchisee b 0 0;area a 0 0 15 1;"
                + "area b 15 0 16 1;outlet b 15 0;");
        for (int i = 0; i < 15; i++) {
            system.append("outlet a ").append(i).append(" 0;");
        }
        FranchiseLedger x = Check.ledger(system.toString());
        for (int month = 0; month < 60; month++) {
            for (int outlet = 0; outlet < 16; outlet++) {
                x.reportSales(outlet, 10000000);
            }
            x.closeMonth();
        }
        Check.due("contributions", 900000000L, x.contributions(0));
        Check.due("all of the fund", true, x.campaign(960000000L));
        Check.due("share of a", 900000000L, x.nationalShare(0));
        Check.due("share of b", 60000000L, x.nationalShare(1));
    }

    private static void wrongArguments() {
        FranchiseLedger x = contributed(SYSTEM, 1000);
        for (int kind : new int[] {-1, 3, Integer.MIN_VALUE, Integer.MAX_VALUE}) {
            Check.dueThrow("spent", Check.IAE, () -> x.spent(kind));
        }
        for (long amount : new long[] {0, -1, 1000000001L, Long.MIN_VALUE, Long.MAX_VALUE}) {
            Check.dueThrow("campaign", Check.IAE, () -> Check.asLong(x.campaign(amount)));
            Check.dueThrow("grant", Check.IAE, () -> Check.asLong(x.grant(0, amount)));
            Check.dueThrow("the index first", Check.IOOBE, () -> Check.asLong(x.grant(3, amount)));
        }
        Check.due("the greatest amounts are in range", false, x.campaign(1000000000L) || x.grant(0, 1000000000L));
        for (int f : new int[] {-1, 3, 8, Integer.MIN_VALUE, Integer.MAX_VALUE}) {
            Check.dueThrow("contributions", Check.IOOBE, () -> x.contributions(f));
            Check.dueThrow("grant", Check.IOOBE, () -> Check.asLong(x.grant(f, 1)));
            Check.dueThrow("allowance", Check.IOOBE, () -> x.allowance(f));
            Check.dueThrow("nationalShare", Check.IOOBE, () -> x.nationalShare(f));
        }
    }
}
