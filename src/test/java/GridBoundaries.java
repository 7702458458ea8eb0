/** Promises 12 to 25: cells, territories and outlets. */
final class GridBoundaries {
    private static final int NONE = FranchiseLedger.NONE;
    private static final int NOT_ALLOWED = FranchiseLedger.NOT_ALLOWED;
    private static final String INDEX = "- `franchisee`: index of a franchisee";
    private static final String NO_FRANCHISEE = "Throws `IndexOutOfBoundsException` if there is no such franchisee";
    private static final String NO_OTHER = NO_FRANCHISEE + " or other one";
    private static final String COLUMN = "- `x`: column, 0 to 29";
    private static final String ROW = "- `y`: row, 0 to 29";
    private static final String NO_CELL = "Throws `IllegalArgumentException` if x or y is out of range";
    private static final int[][] OUTSIDE = {{-1, 0}, {0, -1}, {30, 0}, {0, 30}, {-1, 29}, {29, -1}, {30, 29}, {29, 30},
        {Integer.MIN_VALUE, 0}, {0, Integer.MIN_VALUE}, {Integer.MAX_VALUE, 0}, {0, Integer.MAX_VALUE}, {-1, -1}, {30, 30}};
    private static final int[][] CORNERS = {{0, 0}, {29, 0}, {0, 29}, {29, 29}};
    private static final String TWO = "plan 0 1000;franchisee a 0 0;franchisee b 0 0;";

    private GridBoundaries() {
    }

    interface OfCell {
        long on(FranchiseLedger x, int column, int row);
    }

    static void test() {
        Sentences.test(12, GridBoundaries::owners, "Returns the franchisee to which a cell belongs.", COLUMN, ROW,
                "Returns the franchisee; NONE if it belongs to none.", NO_CELL);
        Sentences.test(13, GridBoundaries::areas, "Returns the number of cells of a territory.", INDEX,
                "Returns the number.", NO_FRANCHISEE);
        Sentences.test(14, GridBoundaries::perimeters, "Returns the perimeter of a territory: the number of sides of its "
                + "cells that do not lie between two of its cells.", INDEX, "Returns the number.", NO_FRANCHISEE);
        Sentences.test(15, GridBoundaries::borders, "Returns the length of the border of two territories: the number of pairs "
                + "of neighbours of which one cell belongs to the first and the other one to the second franchisee.", INDEX,
                "- `other`: index of a franchisee", "Returns the number; 0 if both are the same.", NO_OTHER);
        Sentences.test(16, GridBoundaries::connections, "Tells whether a territory is connected.", INDEX,
                "Returns true if it is.", NO_FRANCHISEE);
        Sentences.test(17, GridBoundaries::distances, "Returns the least distance of a cell to a cell of a territory.", INDEX,
                COLUMN, ROW, "Returns the distance; NONE if the territory is empty.", NO_FRANCHISEE, NO_CELL);
        cedeSentences();
        Sentences.test(19, GridBoundaries::outletOwners, "Returns the franchisee of an outlet.", "- `outlet`: index of an "
                + "outlet", "Returns the franchisee; NONE if it is closed.", "Throws `IndexOutOfBoundsException` if there is "
                + "no such outlet");
        Sentences.test(20, GridBoundaries::outletCells, "Returns the cell of an outlet.", "- `outlet`: index of an outlet",
                "Returns 100 * y + x (also if it is closed).", "Throws `IndexOutOfBoundsException` if there is no such outlet");
        Sentences.test(21, GridBoundaries::opening, "Opens an outlet.", INDEX, COLUMN, ROW, "Returns the index of the outlet; "
                + "NOT_ALLOWED if the franchisee is not ACTIVE, if the cell does not belong to it, or if an outlet that is "
                + "not closed lies in it;", NO_FRANCHISEE, NO_CELL);
        Sentences.test(21, GridBoundaries::openingTheLast, "FULL if there are 16 outlets.");
        Sentences.test(22, GridBoundaries::sites, "Finds a site for another outlet: the cell of the territory, without an "
                + "outlet that is not closed, whose least distance to an outlet (of any franchisee) that is not closed is "
                + "greatest; on a tie the least y, then the least x.", INDEX, NO_FRANCHISEE);
        Sentences.test(22, GridBoundaries::sitesWithout, "Without any such outlet all cells are alike.",
                "Returns 100 * y + x; NONE if there is no such cell.");
        Sentences.test(23, GridBoundaries::coverage, "Counts the cells of a territory whose distance to one of the outlets of "
                + "its franchisee is at most a radius.", INDEX, "- `radius`: 0 to 58", "Returns the number.", NO_FRANCHISEE,
                "Throws `IllegalArgumentException` if radius is out of range");
        Sentences.test(24, GridBoundaries::rivals, "Counts the cells of a territory that are nearer to the other franchisee: "
                + "the least distance to an outlet of the other one (that is not closed) is less than the least distance to "
                + "an outlet of the franchisee itself.", INDEX, "- `other`: index of another franchisee", "Returns the number "
                + "of cells.", NO_OTHER, "Throws `IllegalArgumentException` if both are the same");
        Sentences.test(24, GridBoundaries::rivalsWithout, "Without outlets of the franchisee itself every distance is less, "
                + "without outlets of the other one none.");
        Sentences.test(25, GridBoundaries::halving, "Finds the straight line that halves a territory best. A vertical line k "
                + "has the cells with x < k on one side and the others on the other side, a horizontal line k those with y "
                + "< k; k is 1 to 29.", INDEX, "Returns k for a vertical line, 100 + k for a horizontal one; NONE if the "
                + "territory is empty.", NO_FRANCHISEE);
        Sentences.test(25, GridBoundaries::halvingTies, "The best line has the least difference of the numbers of cells on "
                + "both sides; on a tie a vertical line first, then the least k.");
    }

    private static void cedeSentences() {
        Sentences.test(18, GridBoundaries::cedeRectangles, "Moves cells from one territory to another one: all cells of the "
                + "first franchisee with x1 <= x < x2 and y1 <= y < y2.", "- `from`: index of a franchisee",
                "- `to`: index of another franchisee", "Throws `IndexOutOfBoundsException` if from or to is not the index of a "
                + "franchisee");
        Sentences.test(18, GridBoundaries::cedeOutOfRange, "- `x1`: 0 to 29", "- `y1`: 0 to 29", "- `x2`: x1 + 1 to 30",
                "- `y2`: y1 + 1 to 30", "Throws `IllegalArgumentException` if both are the same, or if a coordinate is out of "
                + "range");
        Sentences.test(18, GridBoundaries::cedeOfOthers, "Returns NOT_ALLOWED if one of both is not ACTIVE; otherwise 0 if "
                + "there are no such cells;");
        Sentences.test(18, GridBoundaries::cedeOutlets, "otherwise NOT_ALLOWED if an outlet that is not closed lies in one of "
                + "them,");
        Sentences.test(18, GridBoundaries::cedeConnections, "or if one of both territories would not be connected; otherwise "
                + "the number of cells.");
    }

    /** The call takes the corners of the grid and refuses the cells beside them. */
    private static void dueCells(String what, OfCell call) {
        for (int[] cell : OUTSIDE) {
            Ledgers.dueRefused(what + " of " + cell[0] + ", " + cell[1], Ledgers.BUSY, Check.IAE,
                    x -> call.on(x, cell[0], cell[1]));
        }
        for (int[] cell : CORNERS) {
            FranchiseLedger x = Ledgers.BUSY.get();
            Check.due(what + " of a corner is refused", false,
                    Check.answer(() -> call.on(x, cell[0], cell[1])).equals(Check.IAE));
        }
    }

    private static void owners() {
        dueCells("owner", FranchiseLedger::owner);
        FranchiseLedger x = Check.ledger(TWO + "area a 0 0 1 1;area b 29 29 30 30;");
        Check.due("the first cell", 0, x.owner(0, 0));
        Check.due("beside it", NONE, x.owner(1, 0));
        Check.due("below it", NONE, x.owner(0, 1));
        Check.due("the last cell", 1, x.owner(29, 29));
        Check.due("beside that", NONE, x.owner(28, 29));
        FranchiseLedger busy = Ledgers.BUSY.get();
        Check.due("of a terminated one", NONE, busy.owner(0, 4));
        Check.due("of a company", Ledgers.DI, busy.owner(20, 20));
        Ledgers.dueRefused("an owner of none", Ledgers.BUSY, NONE, y -> y.owner(0, 4));
    }

    private static void areas() {
        Ledgers.dueFranchisees("area", FranchiseLedger::area);
        Check.due("nothing", 0, Ledgers.FULL.get().area(7));
        Check.due("a row", 30, Ledgers.FULL.get().area(0));
        Check.due("all", 900, Check.ledger(TWO + "area a 0 0 30 30;").area(0));
        Check.due("of a terminated one", 0, Ledgers.BUSY.get().area(Ledgers.CY));
        Check.due("of a company", 16, Ledgers.BUSY.get().area(Ledgers.DI));
    }

    private static void perimeters() {
        Ledgers.dueFranchisees("perimeter", FranchiseLedger::perimeter);
        Check.due("of nothing", 0, Ledgers.FULL.get().perimeter(7));
        Check.due("of a row along the edge", 62, Ledgers.FULL.get().perimeter(0));
        Check.due("of all", 120, Check.ledger(TWO + "area a 0 0 30 30;").perimeter(0));
        Check.due("of the last cell", 4, Check.ledger(TWO + "area a 29 29 30 30;").perimeter(0));
        Check.due("of two cells", 6, Check.ledger(TWO + "area a 28 29 30 30;").perimeter(0));
        Check.due("of two cells at a corner", 8, Check.ledger(TWO + "area a 0 0 1 1;area a 1 1 2 2;").perimeter(0));
        Check.due("of the ends of two rows", 8, Check.ledger(TWO + "area a 29 0 30 1;area a 0 1 1 2;").perimeter(0));
        Check.due("with a hole", 16, Check.ledger(TWO + "area b 1 1 2 2;area a 0 0 3 1;area a 0 2 3 3;area a 0 1 1 2;"
                + "area a 2 1 3 2;").perimeter(0));
    }

    private static void borders() {
        Ledgers.dueFranchisees("border of one", (x, f) -> x.border(f, 0));
        Ledgers.dueFranchisees("border of the other", (x, f) -> x.border(0, f));
        Ledgers.dueFranchisees("border of both", (x, f) -> x.border(f, f));
        FranchiseLedger busy = Ledgers.BUSY.get();
        Check.due("of neighbours", 4, busy.border(Ledgers.ANN, Ledgers.BOB));
        Check.due("the other way", 4, busy.border(Ledgers.BOB, Ledgers.ANN));
        Check.due("of one that has no cells any more", 0, busy.border(Ledgers.ANN, Ledgers.CY));
        for (int f = 0; f < 5; f++) {
            Check.due("both the same", 0, busy.border(f, f));
        }
        Check.due("of one cell with both of its neighbours", 2,
                Check.ledger(TWO + "area a 0 0 1 1;area b 1 0 2 1;area b 0 1 1 2;").border(0, 1));
        Check.due("of halves", 30, Check.ledger(TWO + "area a 0 0 30 15;area b 0 15 30 30;").border(0, 1));
    }

    private static void connections() {
        Ledgers.dueFranchisees("isConnected", (x, f) -> Check.asLong(x.isConnected(f)));
        FranchiseLedger busy = Ledgers.BUSY.get();
        Check.due("a rectangle", true, busy.isConnected(Ledgers.ANN));
        Check.due("nothing any more", false, busy.isConnected(Ledgers.CY));
        Check.due("nothing at all", false, busy.isConnected(Ledgers.ED));
        Check.due("two parts", false, Check.ledger(TWO + "area a 0 0 1 1;area a 29 29 30 30;").isConnected(0));
        Check.due("two parts in the last row", false, Check.ledger(TWO + "area a 0 29 14 30;area a 15 29 30 30;").isConnected(0));
        Check.due("the last row", true, Check.ledger(TWO + "area a 0 29 15 30;area a 15 29 30 30;").isConnected(0));
    }

    private static void distances() {
        Ledgers.dueFranchisees("distance", (x, f) -> x.distance(f, 0, 0));
        dueCells("distance", (x, column, row) -> x.distance(Ledgers.ANN, column, row));
        dueCells("distance of nothing", (x, column, row) -> x.distance(Ledgers.ED, column, row));
        FranchiseLedger busy = Ledgers.BUSY.get();
        Check.due("nothing at all", NONE, busy.distance(Ledgers.ED, 0, 0));
        Check.due("nothing any more", NONE, busy.distance(Ledgers.CY, 0, 4));
        Check.due("inside", 0, busy.distance(Ledgers.ANN, 5, 3));
        Check.due("beside", 1, busy.distance(Ledgers.ANN, 6, 3));
        Check.due("at a corner", 2, busy.distance(Ledgers.ANN, 6, 4));
        FranchiseLedger two = Check.ledger(TWO + "area a 0 0 1 1;area a 29 29 30 30;");
        Check.due("the least of two", 3, two.distance(0, 28, 27));
        Check.due("as far as possible from both", 29, two.distance(0, 0, 29));
    }

    private static void cedeRectangles() {
        Ledgers.dueFranchisees("cede from", (x, f) -> x.cede(f, f == 0 ? 1 : 0, 29, 0, 30, 1));
        Ledgers.dueFranchisees("cede to", (x, f) -> x.cede(f == 0 ? 1 : 0, f, 29, 0, 30, 1));
        Ledgers.dueRefused("cede from and to", Ledgers.BUSY, Check.IOOBE, x -> x.cede(5, 5, 0, 0, 1, 1));
        FranchiseLedger x = Check.ledger(TWO + "area a 0 0 10 10;area b 10 0 20 10;");
        Check.due("up to x2 and y2", 6, x.cede(0, 1, 7, 4, 10, 6));
        Check.due("the first cell", 1, x.owner(7, 4));
        Check.due("the last cell", 1, x.owner(9, 5));
        Check.due("left of x1", 0, x.owner(6, 4));
        Check.due("above y1", 0, x.owner(7, 3));
        Check.due("at y2", 0, x.owner(9, 6));
        Check.due("x2 in the other one's cells", 4, x.cede(0, 1, 9, 6, 20, 30));
        Check.due("cells of the other one stay", 1, x.owner(19, 9));
        Check.due("cells of none stay", NONE, x.owner(9, 10));
        Check.due("the numbers of cells", 90, x.area(0));
        Check.due("of both", 110, x.area(1));
        Check.due("outlets stay", 0, x.count(2));
    }

    private static void cedeOutOfRange() {
        int[][] wrong = {{-1, 0, 1, 1}, {30, 0, 31, 1}, {0, -1, 1, 1}, {0, 30, 1, 31}, {0, 0, 0, 1}, {5, 0, 5, 1},
            {5, 0, 4, 1}, {0, 0, 31, 1}, {0, 0, 1, 0}, {0, 5, 1, 5}, {0, 5, 1, 4}, {0, 0, 1, 31}, {29, 0, 29, 1},
            {0, 29, 1, 29}, {Integer.MAX_VALUE, 0, Integer.MIN_VALUE, 1}, {0, Integer.MIN_VALUE, 1, 1},
            {0, 0, Integer.MAX_VALUE, 1}, {0, 0, 1, Integer.MAX_VALUE}, {0, 0, Integer.MIN_VALUE, 1}, {-1, -1, 0, 0}};
        for (int[] r : wrong) {
            Ledgers.dueRefused("cede", Ledgers.BUSY, Check.IAE, x -> x.cede(Ledgers.ANN, Ledgers.BOB, r[0], r[1], r[2], r[3]));
            Ledgers.dueRefused("cede of others", Ledgers.BUSY, Check.IAE,
                    x -> x.cede(Ledgers.CY, Ledgers.DI, r[0], r[1], r[2], r[3]));
        }
        for (int f = 0; f < 5; f++) {
            int both = f;
            Ledgers.dueRefused("both the same", Ledgers.BUSY, Check.IAE, x -> x.cede(both, both, 0, 0, 1, 1));
        }
        FranchiseLedger x = Check.ledger(TWO + "area a 0 0 30 30;");
        Check.due("the last cell", 1, x.cede(0, 1, 29, 29, 30, 30));
        Check.due("the first row", NOT_ALLOWED, x.cede(0, 1, 0, 0, 30, 1));
        Check.due("the last column", 29, x.cede(0, 1, 29, 0, 30, 30));
        Check.due("all", NOT_ALLOWED, x.cede(0, 1, 0, 0, 30, 30));
        Check.due("no cells of b", 0, x.cede(1, 0, 0, 0, 1, 1));
    }

    private static void cedeOfOthers() {
        int[][] pairs = {{Ledgers.ANN, Ledgers.CY}, {Ledgers.CY, Ledgers.ANN}, {Ledgers.ANN, Ledgers.DI},
            {Ledgers.DI, Ledgers.ANN}, {Ledgers.CY, Ledgers.DI}};
        for (int[] pair : pairs) {
            Ledgers.dueRefused("not active", Ledgers.BUSY, NOT_ALLOWED, x -> x.cede(pair[0], pair[1], 0, 0, 1, 1));
            Ledgers.dueRefused("not active, without cells", Ledgers.BUSY, NOT_ALLOWED,
                    x -> x.cede(pair[0], pair[1], 29, 0, 30, 1));
        }
        Ledgers.dueRefused("no such cells", Ledgers.BUSY, 0, x -> x.cede(Ledgers.ANN, Ledgers.BOB, 6, 0, 30, 30));
        Ledgers.dueRefused("no cells at all", Ledgers.BUSY, 0, x -> x.cede(Ledgers.ED, Ledgers.ANN, 0, 0, 30, 30));
        Check.due("one such cell", 1, Ledgers.BUSY.get().cede(Ledgers.ANN, Ledgers.BOB, 5, 3, 30, 30));
        FranchiseLedger parts = Check.ledger(TWO + "area a 0 0 1 1;area a 2 0 3 1;area b 9 9 10 10;");
        Check.due("no such cells of a territory that is not connected", 0, parts.cede(0, 1, 1, 0, 2, 1));
    }

    private static void cedeOutlets() {
        String system = TWO + "area a 0 0 3 3;area b 3 0 6 3;outlet a 1 1;outlet b 3 1;";
        FranchiseLedger x = Check.ledger(system);
        Check.due("with the outlet", NOT_ALLOWED, x.cede(0, 1, 1, 0, 3, 3));
        Check.due("its cell", NOT_ALLOWED, x.cede(0, 1, 1, 1, 3, 2));
        Check.due("nothing has moved", 9, x.area(0));
        Check.due("beside it, and an outlet of the other one", 3, x.cede(0, 1, 2, 0, 6, 3));
        Ledgers.dueRefused("an outlet of ann", Ledgers.BUSY, NOT_ALLOWED,
                y -> y.cede(Ledgers.ANN, Ledgers.BOB, 4, 0, 6, 4));
        Check.due("cells right of it", 4, Ledgers.BUSY.get().cede(Ledgers.ANN, Ledgers.BOB, 5, 0, 6, 4));
        cedeAroundAnOutlet();
        FranchiseLedger open = Check.ledger(system);
        open.openOutlet(0, 2, 2);
        Check.due("an opened outlet", NOT_ALLOWED, open.cede(0, 1, 2, 2, 3, 3));
        cedeAClosedOutlet();
    }

    /** The rectangle has three columns and three rows; the outlet lies in each of its cells and in those around it. */
    private static void cedeAroundAnOutlet() {
        for (int x = 9; x < 14; x++) {
            for (int y = 9; y < 14; y++) {
                FranchiseLedger ledger = Check.ledger(TWO + "area a 0 0 20 20;outlet a " + x + " " + y + ";");
                boolean inside = x > 9 && x < 13 && y > 9 && y < 13;
                Check.due("an outlet in " + x + ", " + y, inside ? NOT_ALLOWED : 9, ledger.cede(0, 1, 10, 10, 13, 13));
            }
        }
    }

    /** The outlet of a is closed, its cell belongs to none then, and no franchisee can get it. */
    private static void cedeAClosedOutlet() {
        FranchiseLedger x = Check.ledger(TWO + "franchisee c 0 0;area a 0 0 1 1;area b 1 0 2 1;area c 2 0 4 1;outlet a 0 0;"
                + "outlet c 3 0;");
        x.reportSales(0, 1000);
        for (int i = 0; i < 4; i++) {
            x.closeMonth();
        }
        Check.due("terminate", true, x.terminate(0));
        Check.due("a rectangle with a closed outlet", 1, x.cede(2, 1, 0, 0, 3, 1));
        Check.due("the cell of the closed outlet", NONE, x.owner(0, 0));
    }

    private static void cedeConnections() {
        FranchiseLedger row = Check.ledger(TWO + "area a 0 0 5 1;area b 0 1 5 2;");
        Check.due("the giver would be cut", NOT_ALLOWED, row.cede(0, 1, 2, 0, 3, 1));
        Check.due("the giver would have nothing", NOT_ALLOWED, row.cede(0, 1, 0, 0, 5, 1));
        Check.due("nothing has moved", 5, row.area(0));
        Check.due("all but one", 4, row.cede(0, 1, 0, 0, 4, 1));
        Check.due("the last one", NOT_ALLOWED, row.cede(0, 1, 4, 0, 5, 1));
        Ledgers.dueRefused("the taker would be cut", Ledgers.BUSY, NOT_ALLOWED,
                x -> x.cede(Ledgers.BOB, Ledgers.ANN, 9, 3, 10, 4));
        Ledgers.dueRefused("the giver would be cut", Ledgers.BUSY, NOT_ALLOWED,
                x -> x.cede(Ledgers.BOB, Ledgers.ANN, 6, 2, 10, 3));
        Check.due("to one without cells", 2, Ledgers.BUSY.get().cede(Ledgers.ANN, Ledgers.ED, 0, 0, 2, 1));
        FranchiseLedger corner = Check.ledger(TWO + "area a 0 0 2 2;area b 2 2 3 3;");
        Check.due("at a corner of the taker", NOT_ALLOWED, corner.cede(0, 1, 1, 1, 2, 2));
        FranchiseLedger apart = Check.ledger(TWO + "area a 0 0 1 1;area a 2 0 3 1;area b 1 0 2 1;");
        Check.due("a giver in two parts becomes connected", 1, apart.cede(0, 1, 0, 0, 1, 1));
        Check.due("a taker in two parts becomes connected", 1,
                Check.ledger(TWO + "area b 0 0 1 1;area b 2 0 3 1;area a 1 0 2 2;").cede(0, 1, 1, 0, 2, 1));
        Check.due("a taker in two parts stays so", NOT_ALLOWED,
                Check.ledger(TWO + "area b 0 0 1 1;area b 3 0 4 1;area a 1 0 2 2;").cede(0, 1, 1, 0, 2, 1));
    }

    private static void outletOwners() {
        Ledgers.dueOutlets("outletOwner", FranchiseLedger::outletOwner);
        FranchiseLedger busy = Ledgers.BUSY.get();
        int[] owners = {Ledgers.ANN, Ledgers.ANN, Ledgers.BOB, NONE, Ledgers.DI};
        for (int outlet = 0; outlet < owners.length; outlet++) {
            Check.due("outlet " + outlet, owners[outlet], busy.outletOwner(outlet));
        }
        Check.dueThrow("before it is opened", Check.IOOBE, () -> busy.outletOwner(5));
        busy.openOutlet(Ledgers.ANN, 0, 0);
        Check.due("an opened one", Ledgers.ANN, busy.outletOwner(5));
    }

    private static void outletCells() {
        Ledgers.dueOutlets("outletCell", FranchiseLedger::outletCell);
        FranchiseLedger busy = Ledgers.BUSY.get();
        Check.due("the first", 101, busy.outletCell(0));
        Check.due("y before x", 204, busy.outletCell(1));
        Check.due("a closed one", 501, busy.outletCell(3));
        FranchiseLedger x = Check.ledger(TWO + "area a 0 0 30 30;outlet a 0 0;outlet a 29 0;outlet a 0 29;outlet a 29 29;");
        int[] cells = {0, 29, 2900, 2929};
        for (int outlet = 0; outlet < 4; outlet++) {
            Check.due("a corner", cells[outlet], x.outletCell(outlet));
        }
    }

    private static void opening() {
        Ledgers.dueFranchisees("openOutlet", (x, f) -> x.openOutlet(f, 0, 0));
        dueCells("openOutlet", (x, column, row) -> x.openOutlet(Ledgers.ANN, column, row));
        dueCells("openOutlet of a company", (x, column, row) -> x.openOutlet(Ledgers.DI, column, row));
        Ledgers.dueRefused("a terminated one", Ledgers.BUSY, NOT_ALLOWED, x -> x.openOutlet(Ledgers.CY, 0, 4));
        Ledgers.dueRefused("a company in its own cell", Ledgers.BUSY, NOT_ALLOWED, x -> x.openOutlet(Ledgers.DI, 20, 20));
        Ledgers.dueRefused("a cell of another", Ledgers.BUSY, NOT_ALLOWED, x -> x.openOutlet(Ledgers.ANN, 6, 3));
        Ledgers.dueRefused("a cell of none", Ledgers.BUSY, NOT_ALLOWED, x -> x.openOutlet(Ledgers.ANN, 5, 4));
        Ledgers.dueRefused("a cell with an outlet", Ledgers.BUSY, NOT_ALLOWED, x -> x.openOutlet(Ledgers.ANN, 4, 2));
        FranchiseLedger x = Ledgers.BUSY.get();
        Check.due("beside it", 5, x.openOutlet(Ledgers.ANN, 5, 2));
        Check.due("its owner", Ledgers.ANN, x.outletOwner(5));
        Check.due("its cell", 205, x.outletCell(5));
        Check.due("its sales", 0, x.sales(5));
        Check.due("the next", 6, x.openOutlet(Ledgers.ANN, 5, 3));
        Check.due("twice in a cell", NOT_ALLOWED, x.openOutlet(Ledgers.ANN, 5, 3));
        FranchiseLedger over = Ledgers.OVER.get();
        Check.due("when all months are closed", 5, over.openOutlet(Ledgers.ANN, 0, 0));
    }

    private static void openingTheLast() {
        Ledgers.dueRefused("a 17th", Ledgers.FULL, FranchiseLedger.FULL, x -> x.openOutlet(0, 16, 0));
        Ledgers.dueRefused("not allowed comes first", Ledgers.FULL, NOT_ALLOWED, x -> x.openOutlet(0, 15, 0));
        Ledgers.dueRefused("not allowed comes first", Ledgers.FULL, NOT_ALLOWED, x -> x.openOutlet(1, 20, 0));
        FranchiseLedger x = Check.ledger(TWO + "area a 0 0 30 1;outlet a 0 0;");
        for (int outlet = 1; outlet < 16; outlet++) {
            Check.due("up to the 16th", outlet, x.openOutlet(0, outlet, 0));
        }
        Check.due("no more", FranchiseLedger.FULL, x.openOutlet(0, 16, 0));
        Check.due("16 outlets", 16, x.count(2));
        closedOnesCount();
    }

    /** Closed outlets are outlets all the same, so there is no room for others. */
    private static void closedOnesCount() {
        StringBuilder text = new StringBuilder(TWO + "area a 0 0 15 1;area b 15 0 30 1;outlet b 15 0;");
        for (int i = 0; i < 15; i++) {
            text.append("outlet a ").append(i).append(" 0;");
        }
        FranchiseLedger x = Check.ledger(text.toString());
        x.reportSales(1, 1000);
        for (int i = 0; i < 4; i++) {
            x.closeMonth();
        }
        Check.due("terminate", true, x.terminate(0));
        Check.due("15 are closed", FranchiseLedger.FULL, x.openOutlet(1, 16, 0));
    }

    private static void sites() {
        Ledgers.dueFranchisees("bestSite", FranchiseLedger::bestSite);
        FranchiseLedger x = Check.ledger(TWO + "area a 0 0 3 3;area b 3 0 4 1;outlet b 3 0;");
        Check.due("away from another's outlet", 200, x.bestSite(0));
        Check.due("its own cell has an outlet", NONE, x.bestSite(1));
        x.openOutlet(0, 0, 2);
        // distances 2, 2, 1 in row 0; 1, 2, 2 in row 1; 0, 1, 2 in row 2
        Check.due("on a tie the least y, then the least x", 0, x.bestSite(0));
        x.openOutlet(0, 0, 0);
        // row 0 has at most 1; row 1 has 1, 2, 2
        Check.due("then the least x of a row", 101, x.bestSite(0));
        x.openOutlet(0, 1, 1);
        // cells with 2: only (2, 2)
        Check.due("a single one", 202, x.bestSite(0));
        FranchiseLedger last = Check.ledger(TWO + "area a 0 0 30 30;outlet a 0 0;");
        Check.due("the last cell", 2929, last.bestSite(0));
        FranchiseLedger tie = Check.ledger(TWO + "area a 0 3 1 4;area a 3 0 4 1;area b 0 0 1 1;outlet b 0 0;");
        Check.due("the least y counts before the least x", 3, tie.bestSite(0));
    }

    private static void sitesWithout() {
        FranchiseLedger x = Check.ledger(TWO + "area a 5 3 9 9;area a 7 2 8 3;");
        Check.due("the least y, then the least x", 207, x.bestSite(0));
        Check.due("no cells", NONE, x.bestSite(1));
        Check.due("no cells any more", NONE, Ledgers.BUSY.get().bestSite(Ledgers.CY));
        FranchiseLedger all = Check.ledger(TWO + "area a 0 0 2 1;outlet a 0 0;");
        Check.due("one free cell", 1, all.bestSite(0));
        all.openOutlet(0, 1, 0);
        Check.due("no free cell", NONE, all.bestSite(0));
        FranchiseLedger closed = Check.ledger(TWO + "area a 0 0 1 1;area b 1 0 3 1;outlet a 0 0;");
        closed.reportSales(0, 1000);
        for (int i = 0; i < 4; i++) {
            closed.closeMonth();
        }
        Check.due("away from a's outlet", 2, closed.bestSite(1));
        closed.terminate(0);
        Check.due("a closed outlet is none", 1, closed.bestSite(1));
    }

    private static void coverage() {
        Ledgers.dueFranchisees("coverage", (x, f) -> x.coverage(f, 0));
        for (int radius : new int[] {-1, 59, Integer.MIN_VALUE, Integer.MAX_VALUE}) {
            Ledgers.dueRefused("coverage " + radius, Ledgers.BUSY, Check.IAE, x -> x.coverage(Ledgers.ANN, radius));
            Ledgers.dueRefused("coverage " + radius, Ledgers.BUSY, Check.IAE, x -> x.coverage(Ledgers.ED, radius));
        }
        FranchiseLedger x = Check.ledger(TWO + "area a 0 0 30 30;outlet a 0 0;");
        Check.due("radius 0", 1, x.coverage(0, 0));
        Check.due("radius 1", 3, x.coverage(0, 1));
        Check.due("radius 2", 6, x.coverage(0, 2));
        Check.due("radius 57", 899, x.coverage(0, 57));
        Check.due("radius 58", 900, x.coverage(0, 58));
        Check.due("no cells, no outlets", 0, x.coverage(1, 58));
        FranchiseLedger none = Check.ledger(TWO + "area a 0 0 9 9;area b 9 0 10 1;outlet b 9 0;");
        Check.due("no outlets of its own", 0, none.coverage(0, 58));
        Check.due("not the cells of others", 1, none.coverage(1, 58));
        Check.due("of a terminated one", 0, Ledgers.BUSY.get().coverage(Ledgers.CY, 58));
        Check.due("of a company", 16, Ledgers.BUSY.get().coverage(Ledgers.DI, 58));
    }

    private static void rivals() {
        Ledgers.dueFranchisees("rivalCells of one", (x, f) -> x.rivalCells(f, f == 0 ? 1 : 0));
        Ledgers.dueFranchisees("rivalCells of the other", (x, f) -> x.rivalCells(f == 0 ? 1 : 0, f));
        Ledgers.dueRefused("rivalCells of two wrong ones", Ledgers.BUSY, Check.IOOBE, x -> x.rivalCells(5, 5));
        for (int f = 0; f < 5; f++) {
            int both = f;
            Ledgers.dueRefused("both the same", Ledgers.BUSY, Check.IAE, x -> x.rivalCells(both, both));
        }
        FranchiseLedger x = Check.ledger(TWO + "area a 0 0 5 1;area b 5 0 6 1;outlet a 0 0;outlet b 5 0;");
        Check.due("nearer", 2, x.rivalCells(0, 1));
        FranchiseLedger even = Check.ledger(TWO + "area a 0 0 6 1;area b 6 0 7 1;outlet a 0 0;outlet b 6 0;");
        Check.due("equally near is not nearer", 2, even.rivalCells(0, 1));
        Check.due("its own outlet", 0, even.rivalCells(1, 0));
    }

    private static void rivalsWithout() {
        FranchiseLedger x = Check.ledger(TWO + "area a 0 0 5 2;area b 9 9 10 10;outlet b 9 9;");
        Check.due("without outlets of its own", 10, x.rivalCells(0, 1));
        Check.due("without outlets of the other one", 0, x.rivalCells(1, 0));
        FranchiseLedger none = Check.ledger(TWO + "area a 0 0 5 2;area b 9 9 10 10;");
        Check.due("without outlets of both there is no distance", 0, none.rivalCells(0, 1));
        FranchiseLedger busy = Ledgers.BUSY.get();
        Check.due("the other one's are closed", 0, busy.rivalCells(Ledgers.ANN, Ledgers.CY));
        Check.due("without cells", 0, busy.rivalCells(Ledgers.ED, Ledgers.ANN));
    }

    private static void halving() {
        Ledgers.dueFranchisees("halvingLine", FranchiseLedger::halvingLine);
        Check.due("no cells at all", NONE, Ledgers.BUSY.get().halvingLine(Ledgers.ED));
        Check.due("no cells any more", NONE, Ledgers.BUSY.get().halvingLine(Ledgers.CY));
        Check.due("the first columns", 1, lineOf("area a 0 0 2 1;"));
        Check.due("the last columns", 29, lineOf("area a 28 0 30 1;"));
        Check.due("the first rows", 101, lineOf("area a 0 0 1 2;"));
        Check.due("the last rows", 129, lineOf("area a 29 28 30 30;"));
        Check.due("all", 15, lineOf("area a 0 0 30 30;"));
        Check.due("x < k", 14, lineOf("area a 13 0 15 1;"));
        Check.due("y < k", 114, lineOf("area a 13 13 14 15;"));
        Check.due("all columns left of a line count", 7, lineOf("area a 5 5 9 8;"));
        Check.due("all rows above a line count", 107, lineOf("area a 5 5 8 9;"));
    }

    private static int lineOf(String areas) {
        return Check.ledger(TWO + areas).halvingLine(0);
    }

    private static void halvingTies() {
        Check.due("one cell: every line has the difference 1", 1, lineOf("area a 29 29 30 30;"));
        Check.due("one cell at the start", 1, lineOf("area a 0 0 1 1;"));
        Check.due("a square: vertical first", 6, lineOf("area a 5 5 7 7;"));
        Check.due("three columns: 1 and 2, or 2 and 1", 6, lineOf("area a 5 5 8 6;"));
        Check.due("a gap: the least k", 6, lineOf("area a 5 5 6 6;area a 9 5 10 6;"));
        Check.due("a gap of rows: the least k", 106, lineOf("area a 5 5 6 6;area a 5 9 6 10;"));
        Check.due("a better horizontal line", 106, lineOf("area a 5 5 8 7;"));
        Check.due("an equal horizontal line", 6, lineOf("area a 5 5 8 8;"));
    }
}
