/** Promises 12 to 25: cells, territories and outlets. */
public final class TerritoryTest {
    private static final int NONE = FranchiseLedger.NONE;
    private static final int NOT_ALLOWED = FranchiseLedger.NOT_ALLOWED;
    // a is a ring of 8 cells with a hole, b lies right of it, c has two parts, d has no cells.
    private static final String SYSTEM = "plan 0 1000;franchisee a 0 0;franchisee b 0 0;franchisee c 0 0;"
            + "franchisee d 0 0;area a 0 0 3 1;area a 0 0 1 3;area a 2 0 3 3;area a 0 2 3 3;area b 3 0 6 4;"
            + "area c 29 29 30 30;area c 28 28 29 29;delay 3;";

    public static void main(String[] args) {
        owners();
        sizes();
        borders();
        connections();
        distances();
        ceding();
        cedingBesideAnOutlet();
        cedingRefused();
        cedingToAnEmptyTerritory();
        outlets();
        openingRefused();
        sites();
        coverage();
        rivals();
        halving();
        wrongIndexes();
        Check.end();
    }

    private static void owners() {
        FranchiseLedger x = Check.ledger(SYSTEM);
        Check.due("a cell of a", 0, x.owner(0, 0));
        Check.due("the hole", NONE, x.owner(1, 1));
        Check.due("a cell of b", 1, x.owner(5, 3));
        Check.due("right of it", NONE, x.owner(6, 3));
        Check.due("below it", NONE, x.owner(5, 4));
        Check.due("the last cell", 2, x.owner(29, 29));
        Check.due("column and row are not exchanged", NONE, x.owner(3, 5));
        int[][] outside = {{-1, 0}, {0, -1}, {30, 0}, {0, 30}, {Integer.MIN_VALUE, 5}, {5, Integer.MAX_VALUE}};
        for (int[] cell : outside) {
            Check.dueThrow("owner outside", Check.IAE, () -> x.owner(cell[0], cell[1]));
            Check.dueThrow("distance outside", Check.IAE, () -> x.distance(0, cell[0], cell[1]));
            Check.dueThrow("openOutlet outside", Check.IAE, () -> x.openOutlet(0, cell[0], cell[1]));
            Check.dueThrow("the index first", Check.IOOBE, () -> x.distance(4, cell[0], cell[1]));
            Check.dueThrow("the index first", Check.IOOBE, () -> x.openOutlet(4, cell[0], cell[1]));
        }
    }

    private static void sizes() {
        FranchiseLedger x = Check.ledger(SYSTEM);
        Check.due("area of the ring", 8, x.area(0));
        Check.due("area of b", 12, x.area(1));
        Check.due("area of c", 2, x.area(2));
        Check.due("area of d", 0, x.area(3));
        Check.due("perimeter of the ring, inside and outside", 16, x.perimeter(0));
        Check.due("perimeter of b", 14, x.perimeter(1));
        Check.due("perimeter of c", 8, x.perimeter(2));
        Check.due("perimeter of d", 0, x.perimeter(3));
        FranchiseLedger whole = Check.ledger("plan 0 0;franchisee a 0 0;area a 0 0 30 30;");
        Check.due("area of the grid", 900, whole.area(0));
        Check.due("perimeter of the grid", 120, whole.perimeter(0));
        Check.due("the grid is connected", true, whole.isConnected(0));
    }

    private static void borders() {
        FranchiseLedger x = Check.ledger(SYSTEM);
        Check.due("border of a and b", 3, x.border(0, 1));
        Check.due("border of b and a", 3, x.border(1, 0));
        Check.due("border with itself", 0, x.border(0, 0));
        Check.due("cells that touch at a corner", 0, x.border(1, 2));
        Check.due("border with nothing", 0, x.border(0, 3));
        FranchiseLedger rows = Check.ledger("plan 0 0;franchisee a 0 0;franchisee b 0 0;area a 29 0 30 1;area b 0 1 1 2;");
        Check.due("the end of a row is no neighbour of the next one", 0, rows.border(0, 1));
        FranchiseLedger inside = Check.ledger("plan 0 0;franchisee a 0 0;franchisee b 0 0;area a 1 1 2 2;"
                + "area b 0 0 3 1;area b 0 1 1 3;area b 2 1 3 3;area b 1 2 2 3;");
        Check.due("a cell in a ring", 4, inside.border(0, 1));
        Check.due("a ring round a cell", 4, inside.border(1, 0));
        FranchiseLedger first = Check.ledger("plan 0 0;franchisee a 0 0;franchisee b 0 0;area a 0 0 1 1;area b 1 0 2 1;");
        Check.due("the first cell", 1, first.border(0, 1));
        Check.due("is connected alone", true, first.isConnected(0));
        Check.due("and has a distance", 58, first.distance(0, 29, 29));
    }

    private static void connections() {
        FranchiseLedger x = Check.ledger(SYSTEM + "franchisee e 0 0;area e 29 5 30 6;area e 0 6 1 7;franchisee f 0 0;"
                + "area f 10 10 11 15;area f 10 14 15 15;area f 14 10 15 15;area f 12 10 15 11;area f 12 10 13 13;");
        Check.due("a ring", true, x.isConnected(0));
        Check.due("a rectangle", true, x.isConnected(1));
        Check.due("a corner does not connect", false, x.isConnected(2));
        Check.due("an empty territory", false, x.isConnected(3));
        Check.due("the end of a row does not connect", false, x.isConnected(4));
        Check.due("a spiral", true, x.isConnected(5));
    }

    private static void distances() {
        FranchiseLedger x = Check.ledger(SYSTEM);
        Check.due("inside", 0, x.distance(0, 2, 1));
        Check.due("in the hole", 1, x.distance(0, 1, 1));
        Check.due("far", 29 - 2 + 29 - 2, x.distance(0, 29, 29));
        Check.due("of c", 56, x.distance(2, 0, 0));
        Check.due("of b to the left", 5, x.distance(1, 0, 5));
        Check.due("of an empty territory", NONE, x.distance(3, 0, 0));
    }

    private static void ceding() {
        FranchiseLedger x = Check.ledger(SYSTEM);
        Check.due("two cells of a", 2, x.cede(0, 1, 2, 1, 30, 30));
        Check.due("area of a", 6, x.area(0));
        Check.due("area of b", 14, x.area(1));
        Check.due("owner of a cell that moved", 1, x.owner(2, 2));
        Check.due("cells of others in the rectangle stay", 1, x.owner(3, 3));
        Check.due("cells of none too", NONE, x.owner(6, 6));
        Check.due("a part of a row", 2, x.cede(1, 0, 2, 0, 5, 1));
        Check.due("area of a then", 8, x.area(0));
        Check.due("area of b then", 12, x.area(1));
        Check.due("no such cells", 0, x.cede(0, 1, 20, 20, 21, 21));
        Check.due("no cells of that one", 0, x.cede(0, 2, 4, 1, 6, 4));
    }

    /** Each rectangle ends or begins beside the outlet in the middle. */
    private static void cedingBesideAnOutlet() {
        String system = "plan 0 0;franchisee a 0 0;franchisee b 0 0;area a 0 0 5 5;area b 5 0 6 5;area b 0 5 6 6;outlet a 2 2;"
                + "outlet b 5 2;";
        int[][] beside = {{3, 0, 5, 5}, {0, 3, 5, 5}, {3, 0, 6, 6}};
        for (int[] r : beside) {
            Check.due("beside the outlet", 10, Check.ledger(system).cede(0, 1, r[0], r[1], r[2], r[3]));
        }
        int[][] with = {{2, 0, 5, 5}, {0, 2, 5, 5}, {2, 2, 5, 5}};
        for (int[] r : with) {
            Check.due("with the outlet", NOT_ALLOWED, Check.ledger(system).cede(0, 1, r[0], r[1], r[2], r[3]));
        }
        FranchiseLedger x = Check.ledger("plan 0 0;franchisee a 0 0;franchisee b 0 0;area a 0 0 9 1;area b 0 1 9 2;"
                + "outlet a 4 0;outlet b 4 1;");
        Check.due("left of it", 4, x.cede(0, 1, 0, 0, 4, 1));
        Check.due("right of it", 4, x.cede(0, 1, 5, 0, 9, 2));
        Check.due("the outlet's cell alone", NOT_ALLOWED, x.cede(0, 1, 4, 0, 5, 1));
        FranchiseLedger column = Check.ledger("plan 0 0;franchisee a 0 0;franchisee b 0 0;area a 0 0 1 9;area b 1 0 2 9;"
                + "outlet a 0 4;outlet b 1 4;");
        Check.due("above it", 4, column.cede(0, 1, 0, 0, 1, 4));
        Check.due("below it", 4, column.cede(0, 1, 0, 5, 2, 9));
    }

    private static void cedingRefused() {
        FranchiseLedger x = Check.ledger(SYSTEM + "outlet a 2 1;");
        Check.due("an outlet", NOT_ALLOWED, x.cede(0, 1, 2, 0, 3, 3));
        Check.due("the giver would be cut", NOT_ALLOWED, x.cede(1, 0, 3, 1, 6, 2));
        Check.due("the taker would have a part apart", NOT_ALLOWED, x.cede(1, 0, 5, 0, 6, 4));
        Check.due("the giver would have nothing", NOT_ALLOWED, x.cede(1, 0, 0, 0, 30, 30));
        Check.due("nothing changed in a", 8, x.area(0));
        Check.due("nothing changed in b", 12, x.area(1));
        Check.dueThrow("no such giver", Check.IOOBE, () -> x.cede(4, 0, -1, 0, 1, 1));
        Check.dueThrow("no such taker", Check.IOOBE, () -> x.cede(0, -1, -1, 0, 1, 1));
        Check.dueThrow("both the same", Check.IAE, () -> x.cede(0, 0, 0, 0, 1, 1));
        int[][] wrong = {{-1, 0, 1, 1}, {30, 0, 30, 1}, {0, -1, 1, 1}, {0, 30, 1, 30}, {1, 0, 1, 1}, {0, 1, 1, 1},
            {0, 0, 31, 1}, {0, 0, 1, 31}, {5, 5, 4, 6}, {Integer.MAX_VALUE, 0, Integer.MIN_VALUE, 1}};
        for (int[] r : wrong) {
            Check.dueThrow("a wrong rectangle", Check.IAE, () -> x.cede(0, 1, r[0], r[1], r[2], r[3]));
        }
        x.requestTransfer(1, 0, 0);
        x.exercise(1);
        Check.due("the giver is not active", NOT_ALLOWED, x.cede(1, 0, 20, 20, 21, 21));
        Check.due("the taker is not active", NOT_ALLOWED, x.cede(0, 1, 20, 20, 21, 21));
        Check.dueThrow("coordinates come before the status", Check.IAE, () -> x.cede(0, 1, 20, 20, 20, 21));
    }

    private static void cedingToAnEmptyTerritory() {
        FranchiseLedger x = Check.ledger(SYSTEM);
        Check.due("to d", 3, x.cede(1, 3, 3, 0, 6, 1));
        Check.due("area of d", 3, x.area(3));
        Check.due("d is connected", true, x.isConnected(3));
        Check.due("far from d", NOT_ALLOWED, x.cede(2, 3, 29, 29, 30, 30));
        FranchiseLedger y = Check.ledger("plan 0 0;franchisee a 0 0;franchisee b 0 0;area a 0 0 1 1;area a 2 0 3 1;"
                + "area b 1 0 2 1;");
        Check.due("two parts become one", 1, y.cede(0, 1, 0, 0, 1, 1));
        Check.due("the giver's other part", true, y.isConnected(0));
        FranchiseLedger z = Check.ledger("plan 0 0;franchisee a 0 0;franchisee b 0 0;area a 1 0 3 1;area b 0 0 1 1;"
                + "area b 3 0 4 1;area b 0 1 4 2;");
        Check.due("back and forth", 1, z.cede(0, 1, 1, 0, 2, 1));
        Check.due("back", 1, z.cede(1, 0, 1, 0, 2, 1));
        Check.due("as before", 2, z.area(0));
    }

    private static void outlets() {
        FranchiseLedger x = Check.ledger(SYSTEM + "outlet b 5 3;outlet c 29 29;");
        Check.due("owner of the first", 1, x.outletOwner(0));
        Check.due("owner of the second", 2, x.outletOwner(1));
        Check.due("cell of the first", 305, x.outletCell(0));
        Check.due("cell of the second", 2929, x.outletCell(1));
        Check.due("openOutlet", 2, x.openOutlet(0, 2, 0));
        Check.due("its owner", 0, x.outletOwner(2));
        Check.due("its cell", 2, x.outletCell(2));
        Check.due("its sales", 0, x.sales(2));
        Check.due("three outlets", 3, x.count(2));
        x.reportSales(2, 1000);
        for (int i = 0; i < 4; i++) {
            x.closeMonth();
        }
        Check.due("terminate", true, x.terminate(0));
        Check.due("a closed outlet has no owner", NONE, x.outletOwner(2));
        Check.due("but its cell", 2, x.outletCell(2));
        Check.due("closed ones are counted", 3, x.count(2));
        for (int outlet : new int[] {-1, 3, 16, Integer.MIN_VALUE, Integer.MAX_VALUE}) {
            Check.dueThrow("owner of no outlet", Check.IOOBE, () -> x.outletOwner(outlet));
            Check.dueThrow("cell of no outlet", Check.IOOBE, () -> x.outletCell(outlet));
            Check.dueThrow("sales of no outlet", Check.IOOBE, () -> x.sales(outlet));
        }
    }

    private static void openingRefused() {
        FranchiseLedger x = Check.ledger(SYSTEM + "outlet b 3 0;");
        Check.due("a cell of another", NOT_ALLOWED, x.openOutlet(0, 4, 0));
        Check.due("a cell of none", NOT_ALLOWED, x.openOutlet(0, 1, 1));
        Check.due("a cell with an outlet", NOT_ALLOWED, x.openOutlet(1, 3, 0));
        x.requestTransfer(2, 0, 0);
        x.exercise(2);
        Check.due("a company", NOT_ALLOWED, x.openOutlet(2, 29, 29));
        Check.due("no outlet was opened", 1, x.count(2));
        int next = 1;
        for (int y = 0; y < 4; y++) {
            for (int column = 3; column < 6; column++) {
                if (column + y > 3 && next < 16) {
                    Check.due("openOutlet", next, x.openOutlet(1, column, y));
                    next++;
                }
            }
        }
        for (int column = 0; next < 15; column++) {
            Check.due("openOutlet", next, x.openOutlet(0, column, 0));
            next++;
        }
        Check.due("the sixteenth", 15, x.openOutlet(0, 0, 2));
        Check.due("the seventeenth", FranchiseLedger.FULL, x.openOutlet(0, 1, 2));
        Check.due("not allowed comes before full", NOT_ALLOWED, x.openOutlet(0, 1, 1));
        Check.due("sixteen outlets", 16, x.count(2));
        reopening();
    }

    private static void reopening() {
        FranchiseLedger x = Check.ledger("plan 0 1000;franchisee a 0 0;franchisee b 0 0;area a 0 0 2 1;area b 2 0 4 1;"
                + "outlet a 0 0;outlet b 2 0;delay 2;");
        x.reportSales(0, 1000);
        x.closeMonth();
        x.reportSales(0, 500);
        for (int i = 0; i < 3; i++) {
            x.closeMonth();
        }
        x.terminate(0);
        Check.due("cells of a terminated one belong to none", NONE, x.owner(0, 0));
        Check.due("a terminated one opens nothing", NOT_ALLOWED, x.openOutlet(0, 0, 0));
        Check.due("it has no cells", 0, x.area(0));
        Check.due("nor a site", NONE, x.bestSite(0));
        Check.due("b is not disturbed by a closed outlet", 3, x.bestSite(1));
    }

    private static void sites() {
        FranchiseLedger x = Check.ledger(SYSTEM);
        Check.due("without outlets the least y, then the least x", 0, x.bestSite(0));
        Check.due("of b", 3, x.bestSite(1));
        Check.due("of c", 2828, x.bestSite(2));
        Check.due("of no cells", NONE, x.bestSite(3));
        x.openOutlet(0, 0, 0);
        Check.due("away from an outlet of its own", 202, x.bestSite(0));
        Check.due("away from an outlet of another", 305, x.bestSite(1));
        x.openOutlet(1, 5, 3);
        Check.due("between both, in a", 202, x.bestSite(0));
        Check.due("between both, in b", 4, x.bestSite(1));
        FranchiseLedger row = Check.ledger("plan 0 0;franchisee a 0 0;area a 0 0 5 1;area a 0 1 1 5;outlet a 0 0;");
        Check.due("on a tie the least y", 4, row.bestSite(0));
        row.openOutlet(0, 4, 0);
        Check.due("then the other end", 400, row.bestSite(0));
        row.openOutlet(0, 0, 4);
        Check.due("then the middle with the least y", 2, row.bestSite(0));
        FranchiseLedger one = Check.ledger("plan 0 0;franchisee a 0 0;area a 0 0 1 1;outlet a 0 0;");
        Check.due("no free cell", NONE, one.bestSite(0));
    }

    private static void coverage() {
        FranchiseLedger x = Check.ledger(SYSTEM + "outlet a 0 0;outlet b 4 1;");
        Check.due("radius 0", 1, x.coverage(0, 0));
        Check.due("radius 1", 3, x.coverage(0, 1));
        Check.due("radius 2", 5, x.coverage(0, 2));
        Check.due("radius 4", 8, x.coverage(0, 4));
        Check.due("the greatest radius", 8, x.coverage(0, 58));
        Check.due("of b", 5, x.coverage(1, 1));
        Check.due("without outlets", 0, x.coverage(2, 58));
        x.openOutlet(0, 2, 2);
        Check.due("two outlets", 6, x.coverage(0, 1));
        Check.dueThrow("a negative radius", Check.IAE, () -> x.coverage(0, -1));
        Check.dueThrow("a radius that is too great", Check.IAE, () -> x.coverage(0, 59));
        Check.dueThrow("the index first", Check.IOOBE, () -> x.coverage(4, 59));
    }

    private static void rivals() {
        FranchiseLedger x = Check.ledger(SYSTEM);
        Check.due("both without outlets", 0, x.rivalCells(0, 1));
        x.openOutlet(1, 3, 0);
        Check.due("itself without outlets", 8, x.rivalCells(0, 1));
        Check.due("the other one without outlets", 0, x.rivalCells(1, 0));
        x.openOutlet(0, 0, 0);
        Check.due("nearer to b", 3, x.rivalCells(0, 1));
        Check.due("nearer to a", 0, x.rivalCells(1, 0));
        Check.due("of no cells", 0, x.rivalCells(3, 0));
        Check.dueThrow("both the same", Check.IAE, () -> x.rivalCells(1, 1));
        Check.dueThrow("no such other one", Check.IOOBE, () -> x.rivalCells(1, 4));
        Check.dueThrow("no such one", Check.IOOBE, () -> x.rivalCells(-1, -1));
    }

    private static void halving() {
        FranchiseLedger x = Check.ledger(SYSTEM);
        Check.due("the ring: 3 and 5 both ways, vertical first", 1, x.halvingLine(0));
        Check.due("b: a horizontal line is better", 102, x.halvingLine(1));
        Check.due("c: both ways, vertical first", 29, x.halvingLine(2));
        Check.due("an empty territory", NONE, x.halvingLine(3));
        FranchiseLedger one = Check.ledger("plan 0 0;franchisee a 0 0;franchisee b 0 0;area a 29 29 30 30;"
                + "area b 3 3 4 7;");
        Check.due("one cell: every line is alike", 1, one.halvingLine(0));
        Check.due("a column", 105, one.halvingLine(1));
        FranchiseLedger gap = Check.ledger("plan 0 0;franchisee a 0 0;area a 0 0 1 1;area a 9 0 10 1;");
        Check.due("the least k of a gap", 1, gap.halvingLine(0));
        FranchiseLedger last = Check.ledger("plan 0 0;franchisee a 0 0;area a 0 28 30 30;area a 0 28 1 30;");
        Check.due("the middle column", 15, last.halvingLine(0));
    }

    private static void wrongIndexes() {
        FranchiseLedger x = Check.ledger(SYSTEM);
        for (int f : new int[] {-1, 4, 8, Integer.MIN_VALUE, Integer.MAX_VALUE}) {
            Check.dueThrow("area", Check.IOOBE, () -> x.area(f));
            Check.dueThrow("perimeter", Check.IOOBE, () -> x.perimeter(f));
            Check.dueThrow("border", Check.IOOBE, () -> x.border(f, 0));
            Check.dueThrow("border", Check.IOOBE, () -> x.border(0, f));
            Check.dueThrow("border", Check.IOOBE, () -> x.border(f, f));
            Check.dueThrow("isConnected", Check.IOOBE, () -> Check.asLong(x.isConnected(f)));
            Check.dueThrow("distance", Check.IOOBE, () -> x.distance(f, 0, 0));
            Check.dueThrow("openOutlet", Check.IOOBE, () -> x.openOutlet(f, 0, 0));
            Check.dueThrow("bestSite", Check.IOOBE, () -> x.bestSite(f));
            Check.dueThrow("coverage", Check.IOOBE, () -> x.coverage(f, 0));
            Check.dueThrow("rivalCells", Check.IOOBE, () -> x.rivalCells(f, 0));
            Check.dueThrow("rivalCells", Check.IOOBE, () -> x.rivalCells(0, f));
            Check.dueThrow("halvingLine", Check.IOOBE, () -> x.halvingLine(f));
            Check.dueThrow("cede", Check.IOOBE, () -> x.cede(f, 0, 0, 0, 1, 1));
            Check.dueThrow("cede", Check.IOOBE, () -> x.cede(0, f, 0, 0, 1, 1));
        }
    }
}
