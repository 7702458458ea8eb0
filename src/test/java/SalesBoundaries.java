/** Promises 26 to 38: royalties, plans, sales, deliveries, closings and invoices. */
final class SalesBoundaries {
    private static final int NONE = FranchiseLedger.NONE;
    private static final String INDEX = "- `franchisee`: index of a franchisee";
    private static final String NO_FRANCHISEE = "Throws `IndexOutOfBoundsException` if there is no such franchisee";
    private static final String OUTLET = "- `outlet`: index of an outlet";
    private static final String NO_OUTLET = "Throws `IndexOutOfBoundsException` if there is no such outlet";
    private static final String OVER = "Throws `IllegalStateException` if the present month is 60";
    private static final String MONTH = "- `month`: a closed month";
    private static final int[] NO_MONTHS = {-1, 4, 5, 59, 60, Integer.MIN_VALUE, Integer.MAX_VALUE};
    private static final String SHOP = "franchisee a 0 0;franchisee b 0 0;area a 0 0 2 1;area b 2 0 4 1;outlet a 0 0;"
            + "outlet a 1 0;outlet b 2 0;";

    private SalesBoundaries() {
    }

    static void test() {
        Sentences.test(26, SalesBoundaries::royalties, "Calculates a royalty.", "- `plan`: index of a plan",
                "- `sales`: 0 to 1000000000", "Returns the royalty.", "Throws `IndexOutOfBoundsException` if there is no such "
                + "plan", "Throws `IllegalArgumentException` if sales is out of range");
        Sentences.test(27, SalesBoundaries::plans, "Returns the plan of a franchisee.", INDEX, "Returns the index of the "
                + "plan.", NO_FRANCHISEE);
        Sentences.test(28, SalesBoundaries::settingPlans, "Gives a franchisee a plan.", INDEX, "- `plan`: index of a plan",
                "Returns the index of its previous plan.", NO_FRANCHISEE + " or plan");
        Sentences.test(29, SalesBoundaries::cheapestPlans, "Finds the plan by which the royalty and the contribution for the "
                + "present sales of a franchisee together are least; on a tie the lowest index.", INDEX, "Returns the index of "
                + "the plan.", NO_FRANCHISEE);
        Sentences.test(30, SalesBoundaries::reporting, "Reports the sales of an outlet in the present month; they replace its "
                + "previous sales (also those by deliveries; what is remembered for credits stays).", OUTLET,
                "- `amount`: 0 to 10000000", NO_OUTLET, "Throws `IllegalArgumentException` if amount is out of range");
        Sentences.test(30, SalesBoundaries::notReporting, "Returns the previous sales; NONE if the outlet is closed.", OVER);
        Sentences.test(31, SalesBoundaries::delivering, "Records a delivery of an outlet into a cell: the amount is added to "
                + "its sales and, if the cell belongs to another ACTIVE franchisee and that of the outlet is ACTIVE, "
                + "remembered for credits.", OUTLET, "- `x`: column, 0 to 29", "- `y`: row, 0 to 29",
                "- `amount`: 1 to 10000000", NO_OUTLET, "Throws `IllegalArgumentException` if x, y or amount is out of range");
        Sentences.test(31, SalesBoundaries::notDelivering, "Returns the sales of the outlet then; NONE if it is closed; FULL "
                + "if they would exceed 10000000.", OVER);
        Sentences.test(32, SalesBoundaries::presentSales, "Returns the sales of an outlet in the present month.", OUTLET,
                "Returns the amount.", NO_OUTLET);
        Sentences.test(33, SalesBoundaries::closedSales, "Returns the sales of a franchisee in a closed month: the sum of the "
                + "sales of its outlets.", INDEX, MONTH, "Returns the amount.", NO_FRANCHISEE,
                "Throws `IllegalArgumentException` if month is negative or not closed");
        Sentences.test(34, SalesBoundaries::places, "Returns the franchisee with a place by the sum of its sales in all "
                + "closed months, the greatest first; on a tie the lower index first.", "- `place`: from 0",
                "Returns the franchisee; NONE if there is no such place.");
        Sentences.test(35, SalesBoundaries::credits, "Returns the credit due from a franchisee to another one in the present "
                + "month.", INDEX, "- `other`: index of a franchisee", "Returns the amount; 0 if both are the same.",
                NO_FRANCHISEE + " or other one");
        Sentences.test(36, SalesBoundaries::closing, "Closes the present month.", "Returns the new present month.", OVER);
        Sentences.test(37, SalesBoundaries::invoices, "Returns an amount of the invoice of a franchisee for a closed month.",
                INDEX, MONTH, "- `part`: 0 royalty, 1 contribution, 2 interest, 3 credits paid, 4 credits received, 5 due, 6 "
                + "balance", "Returns the amount.", NO_FRANCHISEE, "Throws `IllegalArgumentException` if month is negative or "
                + "not closed, or if part is out of range");
        Sentences.test(38, SalesBoundaries::predictions, "Predicts the amount due of a franchisee if the present month were "
                + "closed now and the sales of each of its outlets were a percentage of what they are (rounded down for each "
                + "outlet); credits and interest as they are.", INDEX, "- `percent`: 0 to 300", NO_FRANCHISEE,
                "Throws `IllegalArgumentException` if percent is out of range");
        Sentences.test(38, SalesBoundaries::noPredictions, "Returns the amount due; 0 if it is not ACTIVE.");
    }

    private static void royalties() {
        Ledgers.duePlans("royalty", (x, plan) -> x.royalty(plan, 0));
        for (long sales : new long[] {-1, 1000000001L, Long.MIN_VALUE, Long.MAX_VALUE, 1L << 32, -(1L << 32)}) {
            Ledgers.dueRefused("royalty of " + sales, Ledgers.BUSY, Check.IAE, x -> x.royalty(0, sales));
        }
        FranchiseLedger x = Ledgers.BUSY.get();
        Check.due("of nothing", 0, x.royalty(0, 0));
        Check.due("of the greatest sales", 1000 + 199998000L, x.royalty(0, 1000000000L));
        Check.due("by another plan", 30000000L, x.royalty(1, 1000000000L));
        Check.due("at the threshold", 1000, x.royalty(0, 10000));
        Check.due("0.4 cents above it", 1000, x.royalty(0, 10002));
        Check.due("0.6 cents above it", 1001, x.royalty(0, 10003));
    }

    private static void plans() {
        Ledgers.dueFranchisees("planOf", FranchiseLedger::planOf);
        Check.due("the first", 0, Ledgers.BUSY.get().planOf(Ledgers.ANN));
        Check.due("the second", 1, Ledgers.BUSY.get().planOf(Ledgers.BOB));
        Check.due("the last", 3, Ledgers.FULL.get().planOf(7));
    }

    private static void settingPlans() {
        Ledgers.dueFranchisees("setPlan", (x, f) -> x.setPlan(f, 0));
        Ledgers.duePlans("setPlan", (x, plan) -> x.setPlan(0, plan));
        Ledgers.dueRefused("setPlan of both", Ledgers.BUSY, Check.IOOBE, x -> x.setPlan(5, 2));
        FranchiseLedger x = Ledgers.FULL.get();
        Check.due("the previous one", 3, x.setPlan(7, 0));
        Check.due("the new one", 0, x.planOf(7));
        Check.due("of others", 3, x.planOf(6));
        Check.due("back", 0, x.setPlan(7, 3));
        Check.due("the same again", 3, x.setPlan(7, 3));
        FranchiseLedger busy = Ledgers.BUSY.get();
        Check.due("of a terminated one", 0, busy.setPlan(Ledgers.CY, 1));
        Check.due("of a company", 1, busy.setPlan(Ledgers.DI, 0));
    }

    private static int cheapest(String plans, long first, long second) {
        FranchiseLedger x = Check.ledger(plans + SHOP);
        x.reportSales(0, first);
        x.reportSales(1, second);
        x.reportSales(2, 10000000);
        return x.cheapestPlan(0);
    }

    private static void cheapestPlans() {
        Ledgers.dueFranchisees("cheapestPlan", FranchiseLedger::cheapestPlan);
        Check.due("without sales all are alike", 0, cheapest("plan 9 9;plan 0 0;", 0, 0));
        Check.due("a tie of two that are not the first", 1, cheapest("plan 9 9;plan 5 5;plan 5 5;", 50000, 50000));
        Check.due("the last", 3, cheapest("plan 9 9;plan 8 9;plan 9 8;plan 8 8;", 500000, 500000));
        Check.due("royalty and contribution together", 1, cheapest("plan 1000 0;plan 400 500;plan 0 1000;", 10000, 0));
        // 5000 cents: 0.5 + 0.5 are 1 + 1; 1 + 0 are 1
        Check.due("each of both is rounded", 1, cheapest("plan 1 1;plan 0 2;", 2500, 2500));
        Check.due("of 4999 cents both are 0 for the first", 0, cheapest("plan 1 1;plan 0 2;", 2500, 2499));
        Check.due("one without outlets", 0, Ledgers.FULL.get().cheapestPlan(7));
        FranchiseLedger closed = Ledgers.BUSY.get();
        Check.due("a terminated one has no sales", 0, closed.cheapestPlan(Ledgers.CY));
    }

    private static void reporting() {
        Ledgers.dueOutlets("reportSales", (x, outlet) -> x.reportSales(outlet, 0));
        for (long amount : new long[] {-1, 10000001, Long.MIN_VALUE, Long.MAX_VALUE, 1L << 32}) {
            Ledgers.dueRefused("reportSales of " + amount, Ledgers.BUSY, Check.IAE, x -> x.reportSales(0, amount));
            Ledgers.dueRefused("reportSales of " + amount, Ledgers.BUSY, Check.IAE, x -> x.reportSales(3, amount));
            Ledgers.dueRefused("reportSales of " + amount, Ledgers.OVER, Check.IAE, x -> x.reportSales(0, amount));
        }
        FranchiseLedger x = Ledgers.BUSY.get();
        Check.due("the previous sales", 7000, x.reportSales(0, 10000000));
        Check.due("the greatest", 10000000, x.reportSales(0, 0));
        Check.due("the least", 0, x.reportSales(0, 5));
        Check.due("a credit by a delivery", 300, x.creditDue(Ledgers.ANN, Ledgers.BOB));
        x.deliver(0, 6, 0, 100);
        Check.due("with a delivery", 105, x.reportSales(0, 1));
        Check.due("which is replaced", 1, x.sales(0));
        Check.due("but remembered", 310, x.creditDue(Ledgers.ANN, Ledgers.BOB));
        Check.due("of a company", 0, x.reportSales(4, 9));
        Check.due("of another outlet", 5000, x.sales(1));
    }

    private static void notReporting() {
        Ledgers.dueRefused("a closed outlet", Ledgers.BUSY, NONE, x -> x.reportSales(3, 5));
        Ledgers.dueRefused("a closed outlet", Ledgers.BUSY, NONE, x -> x.reportSales(3, 0));
        Ledgers.dueRefused("month 60", Ledgers.OVER, Check.ISE, x -> x.reportSales(0, 0));
        Ledgers.dueRefused("month 60", Ledgers.OVER, Check.ISE, x -> x.reportSales(4, 10000000));
        FranchiseLedger x = Check.ledger("plan 0 0;" + SHOP);
        for (int i = 0; i < 59; i++) {
            x.closeMonth();
        }
        Check.due("month 59", 0, x.reportSales(0, 5));
        x.closeMonth();
        Check.dueThrow("month 60", Check.ISE, () -> x.reportSales(0, 5));
        closedInTheLastMonth();
    }

    /** The exception comes before the answer for a closed outlet. */
    private static void closedInTheLastMonth() {
        FranchiseLedger x = Check.ledger("plan 0 1000;" + SHOP);
        x.reportSales(0, 1000);
        for (int i = 0; i < 59; i++) {
            x.closeMonth();
        }
        x.terminate(0);
        Check.due("a closed outlet", NONE, x.reportSales(0, 5));
        Check.due("a closed outlet", NONE, x.deliver(0, 0, 0, 5));
        x.closeMonth();
        Check.dueThrow("a closed outlet in month 60", Check.ISE, () -> x.reportSales(0, 5));
        Check.dueThrow("a closed outlet in month 60", Check.ISE, () -> x.deliver(0, 0, 0, 5));
    }

    private static void delivering() {
        Ledgers.dueOutlets("deliver", (x, outlet) -> x.deliver(outlet, 0, 0, 1));
        int[][] outside = {{-1, 0}, {0, -1}, {30, 0}, {0, 30}, {Integer.MIN_VALUE, 0}, {0, Integer.MAX_VALUE}};
        for (int[] cell : outside) {
            Ledgers.dueRefused("deliver outside", Ledgers.BUSY, Check.IAE, x -> x.deliver(0, cell[0], cell[1], 1));
            Ledgers.dueRefused("deliver outside", Ledgers.BUSY, Check.IAE, x -> x.deliver(3, cell[0], cell[1], 1));
            Ledgers.dueRefused("deliver outside", Ledgers.OVER, Check.IAE, x -> x.deliver(0, cell[0], cell[1], 1));
        }
        for (long amount : new long[] {0, -1, 10000001, Long.MIN_VALUE, Long.MAX_VALUE, 1L << 32}) {
            Ledgers.dueRefused("deliver " + amount, Ledgers.BUSY, Check.IAE, x -> x.deliver(0, 0, 0, amount));
            Ledgers.dueRefused("deliver " + amount, Ledgers.BUSY, Check.IAE, x -> x.deliver(3, 0, 0, amount));
            Ledgers.dueRefused("deliver " + amount, Ledgers.OVER, Check.IAE, x -> x.deliver(0, 0, 0, amount));
        }
        FranchiseLedger x = Ledgers.BUSY.get();
        Check.due("into a corner", 5001, x.deliver(1, 0, 0, 1));
        Check.due("into another", 5002, x.deliver(1, 29, 0, 1));
        Check.due("into another", 5003, x.deliver(1, 0, 29, 1));
        Check.due("into another", 5004, x.deliver(1, 29, 29, 1));
        Check.due("nothing of it is remembered", 300, x.creditDue(Ledgers.ANN, Ledgers.BOB));
        Check.due("into a cell of bob", 6004, x.deliver(1, 9, 3, 1000));
        Check.due("that is", 400, x.creditDue(Ledgers.ANN, Ledgers.BOB));
        x.deliver(1, 20, 20, 1000);
        Check.due("into a cell of a company", 0, x.creditDue(Ledgers.ANN, Ledgers.DI));
        Check.due("of a company", 1000, x.deliver(4, 0, 0, 1000));
        Check.due("is not remembered", 0, x.creditDue(Ledgers.DI, Ledgers.ANN));
        Check.due("the greatest amount", 10000000, Ledgers.FULL.get().deliver(15, 0, 0, 10000000));
    }

    private static void notDelivering() {
        Ledgers.dueRefused("a closed outlet", Ledgers.BUSY, NONE, x -> x.deliver(3, 0, 0, 1));
        Ledgers.dueRefused("a closed outlet, very much", Ledgers.BUSY, NONE, x -> x.deliver(3, 6, 0, 10000000));
        Ledgers.dueRefused("a cent too much", Ledgers.BUSY, FranchiseLedger.FULL, x -> x.deliver(0, 6, 0, 10000000 - 7000 + 1));
        Ledgers.dueRefused("very much", Ledgers.BUSY, FranchiseLedger.FULL, x -> x.deliver(0, 6, 0, 10000000));
        Ledgers.dueRefused("month 60", Ledgers.OVER, Check.ISE, x -> x.deliver(0, 6, 0, 1));
        FranchiseLedger x = Ledgers.BUSY.get();
        Check.due("up to the limit", 10000000, x.deliver(0, 6, 0, 10000000 - 7000));
        Check.due("what is remembered", 5000, x.creditDue(Ledgers.ANN, Ledgers.BOB));
        Check.due("a cent more", FranchiseLedger.FULL, x.deliver(0, 6, 0, 1));
        x.reportSales(0, 9999999);
        Check.due("with reported sales", 10000000, x.deliver(0, 0, 0, 1));
        FranchiseLedger last = Check.ledger("plan 0 0;" + SHOP);
        for (int i = 0; i < 59; i++) {
            last.closeMonth();
        }
        Check.due("month 59", 5, last.deliver(0, 0, 0, 5));
    }

    private static void presentSales() {
        Ledgers.dueOutlets("sales", FranchiseLedger::sales);
        FranchiseLedger x = Ledgers.BUSY.get();
        long[] sales = {7000, 5000, 2000, 0, 0};
        for (int outlet = 0; outlet < sales.length; outlet++) {
            Check.due("sales of " + outlet, sales[outlet], x.sales(outlet));
        }
        x.closeMonth();
        for (int outlet = 0; outlet < sales.length; outlet++) {
            Check.due("sales of " + outlet + " in the next month", 0, x.sales(outlet));
        }
        Check.due("month 60", 0, Ledgers.OVER.get().sales(0));
    }

    private static void closedSales() {
        Ledgers.dueRefused("the index first", Ledgers.BUSY, Check.IOOBE, x -> x.salesOf(5, 4));
        for (int f : new int[] {-1, 5, 8, Integer.MIN_VALUE, Integer.MAX_VALUE}) {
            Ledgers.dueRefused("salesOf " + f, Ledgers.BUSY, Check.IOOBE, x -> x.salesOf(f, 0));
        }
        for (int month : NO_MONTHS) {
            Ledgers.dueRefused("salesOf month " + month, Ledgers.BUSY, Check.IAE, x -> x.salesOf(0, month));
        }
        Ledgers.dueRefused("no month is closed", Ledgers.FULL, Check.IAE, x -> x.salesOf(0, 0));
        Ledgers.dueRefused("month 60", Ledgers.OVER, Check.IAE, x -> x.salesOf(0, 60));
        Ledgers.dueRefused("month -1", Ledgers.OVER, Check.IAE, x -> x.salesOf(0, -1));
        Check.due("the first month", 1000, Ledgers.OVER.get().salesOf(0, 0));
        Check.due("the last month", 1059, Ledgers.OVER.get().salesOf(0, 59));
        FranchiseLedger x = Ledgers.BUSY.get();
        Check.due("the last closed month", 0, x.salesOf(0, 3));
        Check.dueThrow("the present month", Check.IAE, () -> x.salesOf(0, 4));
        x.closeMonth();
        Check.due("when it is closed: two outlets", 12000, x.salesOf(0, 4));
        Check.due("of a terminated one before", 200000, x.salesOf(Ledgers.CY, 0));
        x.reportSales(4, 70);
        x.closeMonth();
        Check.due("of a company", 70, x.salesOf(Ledgers.DI, 5));
        Check.due("the last franchisee", 0, x.salesOf(Ledgers.ED, 0));
    }

    private static void places() {
        for (int place : new int[] {-1, 5, 8, Integer.MIN_VALUE, Integer.MAX_VALUE}) {
            Ledgers.dueRefused("place " + place, Ledgers.BUSY, NONE, x -> x.ranked(place));
        }
        Check.due("a new object", NONE, new FranchiseLedger().ranked(0));
        FranchiseLedger x = Ledgers.BUSY.get();
        int[] order = {Ledgers.ANN, Ledgers.BOB, Ledgers.CY, Ledgers.DI, Ledgers.ED};
        for (int place = 0; place < 5; place++) {
            Check.due("place " + place, order[place], x.ranked(place));
        }
        x.reportSales(4, 99999);
        x.closeMonth();
        Check.due("a cent less", Ledgers.CY, x.ranked(2));
        x.reportSales(4, 1);
        x.closeMonth();
        Check.due("a tie: the lower index", Ledgers.CY, x.ranked(2));
        x.reportSales(4, 1);
        Check.due("the present month does not count", Ledgers.CY, x.ranked(2));
        x.closeMonth();
        Check.due("a cent more", Ledgers.DI, x.ranked(2));
        Check.due("the next", Ledgers.CY, x.ranked(3));
        for (int place = 0; place < 8; place++) {
            Check.due("without sales by index", place, Ledgers.FULL.get().ranked(place));
        }
    }

    private static void credits() {
        Ledgers.dueFranchisees("creditDue from", (x, f) -> x.creditDue(f, 0));
        Ledgers.dueFranchisees("creditDue to", (x, f) -> x.creditDue(0, f));
        Ledgers.dueFranchisees("creditDue of both", (x, f) -> x.creditDue(f, f));
        FranchiseLedger x = Ledgers.BUSY.get();
        Check.due("from ann to bob", 300, x.creditDue(Ledgers.ANN, Ledgers.BOB));
        Check.due("from bob to ann", 200, x.creditDue(Ledgers.BOB, Ledgers.ANN));
        for (int f = 0; f < 5; f++) {
            Check.due("both the same", 0, x.creditDue(f, f));
            Check.due("to ed", 0, x.creditDue(f, Ledgers.ED));
        }
        x.deliver(0, 6, 0, 46990);
        Check.due("a cent below the cap", 4999, x.creditDue(Ledgers.ANN, Ledgers.BOB));
        x.deliver(0, 6, 0, 10);
        Check.due("the cap", 5000, x.creditDue(Ledgers.ANN, Ledgers.BOB));
        x.deliver(0, 6, 0, 10);
        Check.due("not more", 5000, x.creditDue(Ledgers.ANN, Ledgers.BOB));
        x.closeMonth();
        Check.due("in the next month", 0, x.creditDue(Ledgers.ANN, Ledgers.BOB));
    }

    private static void closing() {
        Ledgers.dueRefused("month 60", Ledgers.OVER, Check.ISE, FranchiseLedger::closeMonth);
        FranchiseLedger x = new FranchiseLedger();
        for (int month = 1; month <= 60; month++) {
            Check.due("the new month", month, x.closeMonth());
            Check.due("it is the present one", month, x.month());
        }
        Check.dueThrow("a new object in month 60", Check.ISE, x::closeMonth);
        Check.due("it stays", 60, x.month());
        FranchiseLedger back = Ledgers.OVER.get();
        back.saveSnapshot(0);
        Check.load(back, "");
        Check.due("after a load", 1, back.closeMonth());
    }

    private static void invoices() {
        for (int f : new int[] {-1, 5, 8, Integer.MIN_VALUE, Integer.MAX_VALUE}) {
            Ledgers.dueRefused("invoice of " + f, Ledgers.BUSY, Check.IOOBE, x -> x.invoice(f, 0, 0));
            Ledgers.dueRefused("invoice of " + f, Ledgers.BUSY, Check.IOOBE, x -> x.invoice(f, -1, 7));
        }
        for (int month : NO_MONTHS) {
            Ledgers.dueRefused("invoice of month " + month, Ledgers.BUSY, Check.IAE, x -> x.invoice(0, month, 0));
        }
        for (int part : new int[] {-1, 7, Integer.MIN_VALUE, Integer.MAX_VALUE}) {
            Ledgers.dueRefused("part " + part, Ledgers.BUSY, Check.IAE, x -> x.invoice(0, 0, part));
        }
        Ledgers.dueRefused("no month is closed", Ledgers.FULL, Check.IAE, x -> x.invoice(0, 0, 0));
        Ledgers.dueRefused("month 60", Ledgers.OVER, Check.IAE, x -> x.invoice(0, 60, 0));
        FranchiseLedger x = Ledgers.BUSY.get();
        // 10000 at a tenth and 390000 at a fifth
        long[] first = {1000 + 78000, 20000, 0, 0, 0, 99000, 99000};
        long[] second = {0, 0, 990, 0, 0, 990, 99990};
        for (int part = 0; part < 7; part++) {
            Check.due("part " + part, first[part], x.invoice(0, 0, part));
            Check.due("part " + part + " of the next month", second[part], x.invoice(0, 1, part));
        }
        x.closeMonth();
        Check.due("credits paid", 300, x.invoice(Ledgers.ANN, 4, 3));
        Check.due("credits received", 200, x.invoice(Ledgers.ANN, 4, 4));
        Check.due("the last month", 100, Ledgers.OVER.get().invoice(0, 0, 0));
        Check.due("the last part of the last month", Ledgers.OVER.get().balance(0), Ledgers.OVER.get().invoice(0, 59, 6));
    }

    private static void predictions() {
        Ledgers.dueFranchisees("predictDue", (x, f) -> x.predictDue(f, 100));
        for (int percent : new int[] {-1, 301, Integer.MIN_VALUE, Integer.MAX_VALUE}) {
            Ledgers.dueRefused("predictDue " + percent, Ledgers.BUSY, Check.IAE, x -> x.predictDue(0, percent));
            Ledgers.dueRefused("predictDue " + percent, Ledgers.BUSY, Check.IAE, x -> x.predictDue(Ledgers.CY, percent));
        }
        FranchiseLedger x = Check.ledger("plan 0 1000;" + SHOP + "credit 1000 50;interest 100;");
        x.reportSales(0, 10000);
        x.closeMonth();
        x.reportSales(0, 199);
        x.reportSales(1, 199);
        x.deliver(2, 0, 0, 700);
        x.deliver(0, 2, 0, 100);
        x.reportSales(0, 199);
        // interest 10, credit of 10 paid, credit of 70 received
        Check.due("0 percent", 10 + 10 - 70, x.predictDue(0, 0));
        Check.due("1 percent: 1 and 1", -50, x.predictDue(0, 1));
        Check.due("2 percent: 3 and 3", 1 - 50, x.predictDue(0, 2));
        Check.due("99 percent: 197 and 197", 39 - 50, x.predictDue(0, 99));
        Check.due("100 percent", 40 - 50, x.predictDue(0, 100));
        Check.due("101 percent: 200 and 200", 40 - 50, x.predictDue(0, 101));
        Check.due("300 percent: 597 and 597", 119 - 50, x.predictDue(0, 300));
        Check.due("nothing changes", 199, x.sales(0));
        x.closeMonth();
        Check.due("as the closing did", -10, x.invoice(0, 1, 5));
        greatPredictions();
    }

    private static void greatPredictions() {
        FranchiseLedger x = Check.ledger("plan 1000 3000;" + SHOP);
        x.reportSales(0, 10000000);
        x.reportSales(1, 10000000);
        Check.due("three times the greatest sales", 60000000L * 4 / 10, x.predictDue(0, 300));
    }

    private static void noPredictions() {
        FranchiseLedger x = Ledgers.BUSY.get();
        x.reportSales(4, 10000000);
        Check.due("a company", 0, x.predictDue(Ledgers.DI, 300));
        Check.due("a terminated one", 0, x.predictDue(Ledgers.CY, 300));
        Check.due("an active one without anything", 0, x.predictDue(Ledgers.ED, 300));
        Check.due("an active one", true, x.predictDue(Ledgers.ANN, 0) > 0);
        FranchiseLedger over = Ledgers.OVER.get();
        Check.due("in month 60 the interest is left", (over.balance(0) + 50) / 100, over.predictDue(0, 300));
    }
}
