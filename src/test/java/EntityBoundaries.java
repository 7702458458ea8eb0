/** The description's sentences on amounts, plans, franchisees, cells and outlets. */
final class EntityBoundaries {
    private static final int NONE = FranchiseLedger.NONE;
    private static final int TEXT_ERROR = FranchiseLedger.TEXT_ERROR;
    private static final int HERE = Sentences.DESCRIPTION;

    private EntityBoundaries() {
    }

    static void test() {
        Sentences.test(HERE, EntityBoundaries::rates, "AMOUNTS are longs in cents.",
                "Rates are in basis points: a rate r of an amount a is a * r / 10000, rounded half up "
                + "(amounts are not negative there).");
        Sentences.test(HERE, EntityBoundaries::numbers, "ENTITIES. There are at most 4 plans, 8 franchisees and 16 outlets, "
                + "each numbered from 0 in the order of the input text (further outlets can be opened).");
        Sentences.test(HERE, EntityBoundaries::tiers, "A plan has an advertising rate, a base rate, and up to 4 tiers, each "
                + "with a threshold and a rate.");
        Sentences.test(HERE, EntityBoundaries::royalties, "The royalty of monthly sales s is the sum, over the base and the "
                + "tiers, of the part of s that lies above its threshold (0 for the base) and not above the next threshold, "
                + "multiplied by its rate; this sum is divided by 10000 and rounded half up (once).");
        Sentences.test(HERE, EntityBoundaries::newFranchisees, "A franchisee has a plan, a worth, a status (ACTIVE at first, "
                + "TERMINATED, or COMPANY), a balance (what it owes; 0 at first, it can be negative), a generation (0 at "
                + "first), and a number of overdue months (0 at first).");
        Sentences.test(HERE, EntityBoundaries::cells, "The grid has 30 columns (x) and 30 rows (y) of cells. Each cell "
                + "belongs to one franchisee or to none; the cells of a franchisee are its territory.");
        Sentences.test(HERE, EntityBoundaries::neighbours, "Two cells are neighbours if they have a side in common.");
        Sentences.test(HERE, EntityBoundaries::connected, "A territory is connected if it is not empty and each of its cells "
                + "can be reached from each other one by neighbours inside it.");
        Sentences.test(HERE, EntityBoundaries::distances, "The distance of two cells is the difference of their columns plus "
                + "that of their rows.");
        Sentences.test(HERE, EntityBoundaries::outlets, "An outlet belongs to a franchisee and lies in a cell of its "
                + "territory, at most one in a cell. An outlet that is closed belongs to nobody.");
    }

    /** One outlet of a franchisee with this plan, and these further statements. */
    private static FranchiseLedger shop(String plan, String more) {
        return Check.ledger("plan " + plan + ";franchisee a 0 0;area a 0 0 1 1;outlet a 0 0;" + more);
    }

    private static long part(String plan, String more, long sales, int part) {
        FranchiseLedger x = shop(plan, more);
        x.reportSales(0, sales);
        x.closeMonth();
        return x.invoice(0, 0, part);
    }

    private static void rates() {
        Check.due("0.4999 cents of contribution", 0, part("1 0", "", 4999, 1));
        Check.due("0.5 cents of contribution", 1, part("1 0", "", 5000, 1));
        Check.due("1.4999 cents of contribution", 1, part("1 0", "", 14999, 1));
        Check.due("1.5 cents of contribution", 2, part("1 0", "", 15000, 1));
        Check.due("a rate of 0", 0, part("0 0", "", 10000000, 1));
        Check.due("a tenth of the greatest sales", 1000000, part("1000 0", "", 10000000, 1));
        interest(4999, 0);
        interest(5000, 1);
        admin(4, 0);
        admin(5, 1);
        FranchiseLedger great = shop("0 3000", "");
        Check.due("the product with a rate needs a long", 300000000L, great.royalty(0, 1000000000L));
        FranchiseLedger dollars = shop("0 0", "fee 1;");
        dollars.requestTransfer(0, 0, 0);
        Ledgers.decide(dollars, 0, true);
        dollars.closeMonth();
        Check.due("a dollar is 100 cents", 100, dollars.balance(0));
    }

    /** The royalty is a tenth of the sales, so this balance comes from sales of ten times as much. */
    private static void interest(long balance, long due) {
        FranchiseLedger x = shop("0 1000", "interest 1;");
        x.reportSales(0, balance * 10);
        x.closeMonth();
        x.closeMonth();
        Check.due("interest on " + balance, due, x.invoice(0, 1, 2));
    }

    private static void admin(long contribution, long due) {
        FranchiseLedger x = shop("1000 0", "admin 1000;");
        x.reportSales(0, contribution * 10);
        x.closeMonth();
        Check.due("admin rate of " + contribution, due, x.spent(FranchiseLedger.ADMIN));
    }

    private static void numbers() {
        FranchiseLedger x = Ledgers.FULL.get();
        Check.due("4 plans", 4, x.count(0));
        Check.due("8 franchisees", 8, x.count(1));
        Check.due("16 outlets", 16, x.count(2));
        for (int plan = 0; plan < 4; plan++) {
            Check.due("plans in their order", plan + 1, x.royalty(plan, 10000));
        }
        for (int f = 0; f < 8; f++) {
            Check.due("franchisees in their order", f, Check.find(x, String.valueOf((char) ('a' + f))));
            Check.due("and their worth", f, x.worth(f));
        }
        for (int outlet = 0; outlet < 16; outlet++) {
            Check.due("outlets in their order", outlet, x.outletCell(outlet));
        }
        Check.due("a fifth plan", TEXT_ERROR, Check.load(x, Ledgers.fullText() + "plan 0 0;"));
        Check.due("a ninth franchisee", TEXT_ERROR, Check.load(x, Ledgers.fullText() + "franchisee i 0 0;"));
        Check.due("a 17th outlet", TEXT_ERROR, Check.load(x, Ledgers.fullText() + "outlet a 20 0;"));
        FranchiseLedger open = Check.ledger("plan 0 0;franchisee a 0 0;area a 0 0 30 1;outlet a 7 0;outlet a 3 0;");
        for (int outlet = 2; outlet < 16; outlet++) {
            Check.due("further outlets", outlet, open.openOutlet(0, 10 + outlet, 0));
        }
        Check.due("but not a 17th", FranchiseLedger.FULL, open.openOutlet(0, 29, 0));
    }

    private static void tiers() {
        Check.due("no tier", 100, Check.ledger("plan 0 100;").royalty(0, 10000));
        FranchiseLedger four = Check.ledger("plan 0 100 1 200 2 300 3 400 4 500;");
        // 100 cents each: 1, 2, 3 and 4; then 100 of 5
        Check.due("4 tiers", 1 + 2 + 3 + 4 + 5, four.royalty(0, 500));
        Check.dueLoadError("plan 0 100 1 200 2 300 3 400 4 500 5 600;", 4, 35);
        FranchiseLedger x = shop("1000 0 1 3000", "");
        x.reportSales(0, 200);
        x.closeMonth();
        Check.due("the base rate of 0 and a tier of 3000", 30, x.invoice(0, 0, 0));
        Check.due("the advertising rate", 20, x.invoice(0, 0, 1));
    }

    private static void royalties() {
        FranchiseLedger x = Check.ledger("plan 0 0 1 3000 2 0 3 3000;plan 0 3000 1 0;plan 0 1 1 1 2 1;plan 0 50 1 50;");
        Check.due("nothing", 0, x.royalty(0, 0));
        Check.due("at the first threshold", 0, x.royalty(0, 100));
        Check.due("0.3 cents above it", 0, x.royalty(0, 101));
        Check.due("0.6 cents above it", 1, x.royalty(0, 102));
        Check.due("at the second threshold", 30, x.royalty(0, 200));
        Check.due("above it the rate is 0", 30, x.royalty(0, 202));
        Check.due("at the third", 30, x.royalty(0, 300));
        Check.due("above the last", 31, x.royalty(0, 302));
        Check.due("far above the last", 30 + 299999910L, x.royalty(0, 1000000000L));
        Check.due("below the threshold", 30, x.royalty(1, 99));
        Check.due("at the threshold", 30, x.royalty(1, 100));
        Check.due("above the threshold", 30, x.royalty(1, 1000000000L));
        Check.due("rounded once: 0.01 + 0.01 + 0.4799", 0, x.royalty(2, 4999));
        Check.due("rounded once: 0.01 + 0.01 + 0.48", 1, x.royalty(2, 5000));
        Check.due("not each part: 0.5 + 0.495", 1, x.royalty(3, 199));
        Check.due("not each part: 0.5 + 0.5", 1, x.royalty(3, 200));
    }

    private static void newFranchisees() {
        FranchiseLedger x = Ledgers.FULL.get();
        for (int f = 0; f < 8; f++) {
            Check.due("plan", 3, x.planOf(f));
            Check.due("worth", f, x.worth(f));
            Check.due("status", FranchiseLedger.ACTIVE, x.status(f));
            Check.due("balance", 0, x.balance(f));
            Check.due("generation", 0, x.generation(f));
            Check.due("overdue months", 0, x.monthsOverdue(f));
        }
        Check.due("a negative balance", -1, x.pay(7, 1));
        Check.due("of that one alone", 0, x.balance(6));
        FranchiseLedger busy = Ledgers.BUSY.get();
        Check.due("terminated", FranchiseLedger.TERMINATED, busy.status(Ledgers.CY));
        Check.due("company", FranchiseLedger.COMPANY, busy.status(Ledgers.DI));
    }

    private static void cells() {
        FranchiseLedger x = Check.ledger("plan 0 0;franchisee a 0 0;franchisee b 0 0;area a 0 0 30 29;area b 29 29 30 30;");
        Check.due("the first cell", 0, x.owner(0, 0));
        Check.due("the end of the first row", 0, x.owner(29, 0));
        Check.due("the start of the last row", NONE, x.owner(0, 29));
        Check.due("beside the last cell", NONE, x.owner(28, 29));
        Check.due("the last cell", 1, x.owner(29, 29));
        Check.dueThrow("a 31st column", Check.IAE, () -> x.owner(30, 0));
        Check.dueThrow("a 31st row", Check.IAE, () -> x.owner(0, 30));
        Check.due("territory of a", 870, x.area(0));
        Check.due("territory of b", 1, x.area(1));
    }

    private static void neighbours() {
        int[][] beside = {{4, 5}, {6, 5}, {5, 4}, {5, 6}};
        int[][] apart = {{4, 4}, {6, 4}, {4, 6}, {6, 6}, {7, 5}, {5, 7}, {3, 5}, {5, 3}};
        for (int[] cell : beside) {
            Check.due("a side in common", 1, withTwoCells(5, 5, cell[0], cell[1]).border(0, 1));
        }
        for (int[] cell : apart) {
            Check.due("no side in common", 0, withTwoCells(5, 5, cell[0], cell[1]).border(0, 1));
        }
        Check.due("the end of a row and the start of the next one", 0, withTwoCells(29, 3, 0, 4).border(0, 1));
        Check.due("both ends of a row", 0, withTwoCells(0, 3, 29, 3).border(0, 1));
        Check.due("both ends of a column", 0, withTwoCells(3, 0, 3, 29).border(0, 1));
    }

    private static FranchiseLedger withTwoCells(int x1, int y1, int x2, int y2) {
        return Check.ledger("plan 0 0;franchisee a 0 0;franchisee b 0 0;" + cellOf("a", x1, y1) + cellOf("b", x2, y2));
    }

    static String cellOf(String name, int x, int y) {
        return "area " + name + " " + x + " " + y + " " + (x + 1) + " " + (y + 1) + ";";
    }

    private static void connected() {
        Check.due("an empty one", false, Check.ledger("plan 0 0;franchisee a 0 0;").isConnected(0));
        Check.due("the first cell", true, withCells("0 0").isConnected(0));
        Check.due("the last cell", true, withCells("29 29").isConnected(0));
        Check.due("two cells side by side", true, withCells("3 3", "4 3").isConnected(0));
        Check.due("two cells, one above the other", true, withCells("3 3", "3 4").isConnected(0));
        Check.due("two cells at a corner", false, withCells("3 3", "4 4").isConnected(0));
        Check.due("two cells at the other corner", false, withCells("4 3", "3 4").isConnected(0));
        Check.due("a gap", false, withCells("3 3", "5 3").isConnected(0));
        Check.due("the end of a row and the start of the next one", false, withCells("29 3", "0 4").isConnected(0));
        Check.due("a corner that is passed by", true, withCells("3 3", "4 4", "4 3").isConnected(0));
        Check.due("a way to the left", true, withCells("1 0", "1 1", "0 1").isConnected(0));
        Check.due("a way upwards", true, withCells("0 0", "0 1", "1 1", "2 1", "2 0").isConnected(0));
        Check.due("a cell of another between", false, Check.ledger("plan 0 0;franchisee a 0 0;franchisee b 0 0;"
                + cellOf("a", 0, 0) + cellOf("b", 1, 0) + cellOf("a", 2, 0)).isConnected(0));
        Check.due("the whole grid", true, Check.ledger("plan 0 0;franchisee a 0 0;area a 0 0 30 30;").isConnected(0));
        Check.due("a long way upwards", true, Check.ledger("plan 0 0;franchisee a 0 0;area a 0 0 1 30;area a 0 29 30 30;"
                + "area a 29 0 30 30;area a 2 0 30 1;area a 2 0 3 28;").isConnected(0));
    }

    private static FranchiseLedger withCells(String... cells) {
        StringBuilder text = new StringBuilder("plan 0 0;franchisee a 0 0;");
        for (String cell : cells) {
            String[] xy = cell.split(" ");
            text.append(cellOf("a", Integer.parseInt(xy[0]), Integer.parseInt(xy[1])));
        }
        return Check.ledger(text.toString());
    }

    private static void distances() {
        FranchiseLedger x = withCells("10 20");
        Check.due("of a cell to itself", 0, x.distance(0, 10, 20));
        Check.due("to the left", 10, x.distance(0, 0, 20));
        Check.due("to the right", 19, x.distance(0, 29, 20));
        Check.due("upwards", 20, x.distance(0, 10, 0));
        Check.due("downwards", 9, x.distance(0, 10, 29));
        Check.due("columns plus rows", 30, x.distance(0, 0, 0));
        Check.due("the greatest", 58, withCells("0 0").distance(0, 29, 29));
        Check.due("the greatest the other way", 58, withCells("29 0").distance(0, 0, 29));
    }

    private static void outlets() {
        String text = "plan 0 1000;franchisee a 0 0;franchisee b 0 0;area a 0 0 2 1;area b 2 0 3 1;outlet a 0 0;";
        Check.dueLoadError(text + "outlet a 0 0;", 5, text.length() + 11);
        Check.dueLoadError(text + "outlet a 2 0;", 5, text.length() + 11);
        Check.dueLoadError(text + "outlet a 3 0;", 5, text.length() + 11);
        FranchiseLedger x = Check.ledger(text + "outlet a 1 0;outlet b 2 0;");
        Check.due("outlets in two cells", 0, x.outletOwner(1));
        Check.due("a second one in a cell", FranchiseLedger.NOT_ALLOWED, x.openOutlet(0, 1, 0));
        Check.due("in a cell of another", FranchiseLedger.NOT_ALLOWED, x.openOutlet(1, 1, 0));
        x.reportSales(0, 1000);
        for (int i = 0; i < 4; i++) {
            x.closeMonth();
        }
        x.terminate(0);
        Check.due("closed", NONE, x.outletOwner(0));
        Check.due("closed too", NONE, x.outletOwner(1));
        Check.due("not closed", 1, x.outletOwner(2));
    }
}
