import java.util.Arrays;

/** A ledger for a franchise system; README.md says how it is used. */
public final class FranchiseLedger {
    public static final int NONE = -1;
    public static final int NOT_ALLOWED = -2;
    public static final int FULL = -3;
    public static final int TEXT_ERROR = -4;
    public static final int ACTIVE = 0;
    public static final int TERMINATED = 1;
    public static final int COMPANY = 2;
    public static final int ADMIN = 0;
    public static final int NATIONAL = 1;
    public static final int LOCAL = 2;
    public static final int NO_TRANSFER = 0;
    public static final int REQUESTED = 1;
    public static final int APPROVED = 2;
    public static final int REJECTED = 3;
    public static final int DONE = 4;
    public static final int EXERCISED = 5;

    private static final int MAX_PLANS = 4;
    private static final int MAX_TIERS = 4;
    private static final int MAX_FRANCHISEES = 8;
    private static final int MAX_OUTLETS = 16;
    private static final int MAX_ENTRIES = 40;
    private static final int MAX_LETTERS = 10;
    private static final int MAX_DIGITS = 6;
    private static final int MAX_INPUT = 1500;
    private static final int APPENDED_BYTES = 20;
    private static final int MAX_FORMATTED = 256;
    private static final int SIDE = 30;
    private static final int CELLS = SIDE * SIDE;
    private static final int MONTHS = 60;
    private static final int COMMITTEE = 5;
    private static final int MAJORITY = 3;
    private static final int SNAPSHOTS = 2;
    private static final int KINDS_OF_SPENDING = 3;
    private static final int OVERDUE_TO_TERMINATE = 3;
    private static final int MAX_RADIUS = 58;
    private static final int MAX_PERCENT = 300;
    private static final int MAX_WORTH = 999;
    private static final int MAX_PAY_OFF = 120;
    private static final long MAX_SALES = 10000000L;
    private static final long MAX_AMOUNT = 1000000000L;
    private static final long CENTS = 100L;
    private static final long BASIS_POINTS = 10000L;
    private static final int ANYBODY = -1;
    private static final int FAR = 1000;

    private static final int PARTS = 7;
    private static final int ROYALTY_PART = 0;
    private static final int CONTRIBUTION_PART = 1;
    private static final int INTEREST_PART = 2;
    private static final int PAID_PART = 3;
    private static final int RECEIVED_PART = 4;
    private static final int DUE_PART = 5;
    private static final int BALANCE_PART = 6;

    private static final int NO_ERROR = 0;
    private static final int SYNTAX_ERROR = 1;
    private static final int RANGE_ERROR = 2;
    private static final int NAME_ERROR = 3;
    private static final int LIMIT_ERROR = 4;
    private static final int CONFLICT_ERROR = 5;

    private final Tokens input;
    private final InvoiceText formatted;
    private final Grid trial;
    private final Business[] snapshots;
    private final boolean[] saved;
    private Business present;
    private Business draft;
    private Journal journal;
    private Journal draftJournal;
    private int lastError;
    private int lastErrorPosition;

    public FranchiseLedger() {
        input = new Tokens();
        formatted = new InvoiceText();
        trial = new Grid();
        snapshots = new Business[] {new Business(), new Business()};
        saved = new boolean[SNAPSHOTS];
        present = new Business();
        present.clear();
        draft = new Business();
        journal = new Journal();
        draftJournal = new Journal();
        lastError = NO_ERROR;
        lastErrorPosition = NONE;
    }

    public int appendInput(int w0, int w1, int w2, int w3, int w4) {
        if (input.length > MAX_INPUT - APPENDED_BYTES) {
            return NONE;
        }
        input.addFourBytes(w0);
        input.addFourBytes(w1);
        input.addFourBytes(w2);
        input.addFourBytes(w3);
        input.addFourBytes(w4);
        return input.length;
    }

    public int truncateInput(int length) {
        if (length < 0 || length > input.length) {
            return NONE;
        }
        input.length = length;
        return length;
    }

    public int load() {
        draft.clear();
        int statements = SystemReader.read(input, draft);
        finishReading();
        if (lastError != NO_ERROR) {
            return TEXT_ERROR;
        }
        Business replaced = present;
        present = draft;
        draft = replaced;
        journal.clear();
        for (int slot = 0; slot < SNAPSHOTS; slot++) {
            saved[slot] = false;
        }
        return statements;
    }

    public int errorCode() {
        return lastError;
    }

    public int errorPosition() {
        return lastErrorPosition;
    }

    public int find() {
        int found = present.franchisees.named(input.bytes, 0, input.length);
        input.length = 0;
        return found;
    }

    public int loadJournal() {
        draftJournal.readFrom(input, present.franchisees);
        finishReading();
        if (lastError != NO_ERROR) {
            return TEXT_ERROR;
        }
        Journal replaced = journal;
        journal = draftJournal;
        draftJournal = replaced;
        return journal.left();
    }

    public int runJournal(int entries) throws IllegalArgumentException {
        requireArgument(entries >= 1 && entries <= MAX_ENTRIES);
        int done = 0;
        int due = Math.min(entries, journal.left());
        for (int i = 0; i < due; i++) {
            if (journal.executeNext(present)) {
                done++;
            }
        }
        return done;
    }

    public int count(int what) {
        switch (what) {
            case 0:
                return present.terms.planCount;
            case 1:
                return present.franchisees.count;
            case 2:
                return present.outlets.count;
            case 3:
                return journal.left();
            default:
                return NONE;
        }
    }

    public int month() {
        return present.books.month;
    }

    public int owner(int x, int y) throws IllegalArgumentException {
        requireArgument(Grid.contains(x, y));
        return present.grid.ownerAt(x, y);
    }

    public int area(int franchisee) throws IndexOutOfBoundsException {
        requireFranchisee(franchisee);
        return present.grid.sizeOf(franchisee);
    }

    public int perimeter(int franchisee) throws IndexOutOfBoundsException {
        requireFranchisee(franchisee);
        return present.grid.outerSides(franchisee);
    }

    public int border(int franchisee, int other) throws IndexOutOfBoundsException {
        requireFranchisee(franchisee);
        requireFranchisee(other);
        return franchisee == other ? 0 : present.grid.sharedSides(franchisee, other);
    }

    public boolean isConnected(int franchisee) throws IndexOutOfBoundsException {
        requireFranchisee(franchisee);
        return present.grid.isWhole(franchisee);
    }

    public int distance(int franchisee, int x, int y) throws IndexOutOfBoundsException, IllegalArgumentException {
        requireFranchisee(franchisee);
        requireArgument(Grid.contains(x, y));
        return present.grid.leastDistance(franchisee, x, y);
    }

    public int cede(int from, int to, int x1, int y1, int x2, int y2)
            throws IndexOutOfBoundsException, IllegalArgumentException {
        requireFranchisee(from);
        requireFranchisee(to);
        requireArgument(from != to);
        requireArgument(Grid.contains(x1, y1));
        requireArgument(x2 > x1 && x2 <= SIDE && y2 > y1 && y2 <= SIDE);
        if (!present.franchisees.isActive(from) || !present.franchisees.isActive(to)) {
            return NOT_ALLOWED;
        }
        trial.copyFrom(present.grid);
        int moved = trial.move(from, to, x1, y1, x2, y2);
        if (moved == 0) {
            return 0;
        }
        if (present.outlets.anyWithin(from, x1, y1, x2, y2) || !trial.isWhole(from) || !trial.isWhole(to)) {
            return NOT_ALLOWED;
        }
        present.grid.copyFrom(trial);
        return moved;
    }

    public int outletOwner(int outlet) throws IndexOutOfBoundsException {
        requireOutlet(outlet);
        return present.outlets.owners[outlet];
    }

    public int outletCell(int outlet) throws IndexOutOfBoundsException {
        requireOutlet(outlet);
        return cellCode(present.outlets.xs[outlet], present.outlets.ys[outlet]);
    }

    public int openOutlet(int franchisee, int x, int y) throws IndexOutOfBoundsException, IllegalArgumentException {
        requireFranchisee(franchisee);
        requireArgument(Grid.contains(x, y));
        if (!present.franchisees.isActive(franchisee) || !present.hasFreeCell(franchisee, x, y)) {
            return NOT_ALLOWED;
        }
        return present.outlets.add(franchisee, x, y);
    }

    public int bestSite(int franchisee) throws IndexOutOfBoundsException {
        requireFranchisee(franchisee);
        return present.farthestCell(franchisee);
    }

    public int coverage(int franchisee, int radius) throws IndexOutOfBoundsException, IllegalArgumentException {
        requireFranchisee(franchisee);
        requireArgument(radius >= 0 && radius <= MAX_RADIUS);
        return present.cellsWithin(franchisee, radius);
    }

    public int rivalCells(int franchisee, int other) throws IndexOutOfBoundsException, IllegalArgumentException {
        requireFranchisee(franchisee);
        requireFranchisee(other);
        requireArgument(franchisee != other);
        return present.cellsNearerTo(franchisee, other);
    }

    public int halvingLine(int franchisee) throws IndexOutOfBoundsException {
        requireFranchisee(franchisee);
        return present.grid.bestHalving(franchisee);
    }

    public long royalty(int plan, long sales) throws IndexOutOfBoundsException, IllegalArgumentException {
        requirePlan(plan);
        requireArgument(sales >= 0 && sales <= MAX_AMOUNT);
        return present.terms.royaltyFor(plan, sales);
    }

    public int planOf(int franchisee) throws IndexOutOfBoundsException {
        requireFranchisee(franchisee);
        return present.franchisees.plans[franchisee];
    }

    public int setPlan(int franchisee, int plan) throws IndexOutOfBoundsException {
        requireFranchisee(franchisee);
        requirePlan(plan);
        int previous = present.franchisees.plans[franchisee];
        present.franchisees.plans[franchisee] = plan;
        return previous;
    }

    public int cheapestPlan(int franchisee) throws IndexOutOfBoundsException {
        requireFranchisee(franchisee);
        return present.terms.cheapestFor(present.outlets.salesTogether(franchisee));
    }

    public long reportSales(int outlet, long amount)
            throws IndexOutOfBoundsException, IllegalArgumentException, IllegalStateException {
        requireOutlet(outlet);
        requireArgument(amount >= 0 && amount <= MAX_SALES);
        requireOpenMonth();
        return present.outlets.replaceSales(outlet, amount);
    }

    public long deliver(int outlet, int x, int y, long amount)
            throws IndexOutOfBoundsException, IllegalArgumentException, IllegalStateException {
        requireOutlet(outlet);
        requireArgument(Grid.contains(x, y));
        requireArgument(amount >= 1 && amount <= MAX_SALES);
        requireOpenMonth();
        return present.addDelivery(outlet, x, y, amount);
    }

    public long sales(int outlet) throws IndexOutOfBoundsException {
        requireOutlet(outlet);
        return present.outlets.sales[outlet];
    }

    public long salesOf(int franchisee, int month) throws IndexOutOfBoundsException, IllegalArgumentException {
        requireFranchisee(franchisee);
        requireClosedMonth(month);
        return present.books.salesIn(franchisee, month);
    }

    public int ranked(int place) {
        return present.books.atPlace(place, present.franchisees.count);
    }

    public long creditDue(int franchisee, int other) throws IndexOutOfBoundsException {
        requireFranchisee(franchisee);
        requireFranchisee(other);
        return present.creditBetween(franchisee, other);
    }

    public int closeMonth() throws IllegalStateException {
        requireOpenMonth();
        present.close();
        return present.books.month;
    }

    public long invoice(int franchisee, int month, int part)
            throws IndexOutOfBoundsException, IllegalArgumentException {
        requireFranchisee(franchisee);
        requireClosedMonth(month);
        requireArgument(part >= 0 && part < PARTS);
        return present.books.invoicePart(franchisee, month, part);
    }

    public long predictDue(int franchisee, int percent) throws IndexOutOfBoundsException, IllegalArgumentException {
        requireFranchisee(franchisee);
        requireArgument(percent >= 0 && percent <= MAX_PERCENT);
        present.calculate(franchisee, present.outlets.scaledSales(franchisee, percent));
        return present.parts[DUE_PART];
    }

    public long balance(int franchisee) throws IndexOutOfBoundsException {
        requireFranchisee(franchisee);
        return present.franchisees.balances[franchisee];
    }

    public long totalOwed() {
        return present.franchisees.owedTogether();
    }

    public long pay(int franchisee, long amount) throws IndexOutOfBoundsException, IllegalArgumentException {
        requireFranchisee(franchisee);
        requireAmount(amount);
        return present.franchisees.lowerBalance(franchisee, amount);
    }

    public int monthsOverdue(int franchisee) throws IndexOutOfBoundsException {
        requireFranchisee(franchisee);
        return present.franchisees.overdue[franchisee];
    }

    public int payOff(int franchisee, long payment) throws IndexOutOfBoundsException, IllegalArgumentException {
        requireFranchisee(franchisee);
        requireAmount(payment);
        return present.monthsToPayOff(franchisee, payment);
    }

    public boolean terminate(int franchisee) throws IndexOutOfBoundsException {
        requireFranchisee(franchisee);
        return present.endContract(franchisee);
    }

    public int status(int franchisee) throws IndexOutOfBoundsException {
        requireFranchisee(franchisee);
        return present.franchisees.statuses[franchisee];
    }

    public long fundBalance() {
        return present.books.fundLeft();
    }

    public long contributions(int franchisee) throws IndexOutOfBoundsException {
        requireFranchisee(franchisee);
        return present.books.contributed[franchisee];
    }

    public long spent(int kind) throws IllegalArgumentException {
        requireArgument(kind >= 0 && kind < KINDS_OF_SPENDING);
        return present.books.spending[kind];
    }

    public boolean campaign(long amount) throws IllegalArgumentException {
        requireAmount(amount);
        return present.books.spendNational(amount);
    }

    public boolean grant(int franchisee, long amount) throws IndexOutOfBoundsException, IllegalArgumentException {
        requireFranchisee(franchisee);
        requireAmount(amount);
        return present.spendLocal(franchisee, amount);
    }

    public long allowance(int franchisee) throws IndexOutOfBoundsException {
        requireFranchisee(franchisee);
        return present.books.allowanceLeft(franchisee);
    }

    public long nationalShare(int franchisee) throws IndexOutOfBoundsException {
        requireFranchisee(franchisee);
        return present.books.shareOfNational(franchisee);
    }

    public boolean requestTransfer(int franchisee, int worth, long price)
            throws IndexOutOfBoundsException, IllegalArgumentException {
        requireFranchisee(franchisee);
        requireArgument(worth >= 0 && worth <= MAX_WORTH);
        requireArgument(price >= 0 && price <= MAX_AMOUNT);
        if (!present.mayTransfer(franchisee, worth)) {
            return false;
        }
        present.transfers.begin(franchisee, present.books.month, worth, price);
        return true;
    }

    public int vote(int franchisee, int member, boolean yes)
            throws IndexOutOfBoundsException, IllegalArgumentException {
        requireFranchisee(franchisee);
        requireArgument(member >= 0 && member < COMMITTEE);
        return present.transfers.addVote(franchisee, member, yes);
    }

    public boolean exercise(int franchisee) throws IndexOutOfBoundsException {
        requireFranchisee(franchisee);
        return present.takeOver(franchisee);
    }

    public boolean withdraw(int franchisee) throws IndexOutOfBoundsException {
        requireFranchisee(franchisee);
        return present.transfers.endOpen(franchisee, NO_TRANSFER);
    }

    public int transferState(int franchisee) throws IndexOutOfBoundsException {
        requireFranchisee(franchisee);
        return present.transfers.states[franchisee];
    }

    public int transferWait(int franchisee) throws IndexOutOfBoundsException {
        requireFranchisee(franchisee);
        return present.transfers.isOpen(franchisee) ? present.monthsOfDelayLeft(franchisee) : NONE;
    }

    public int generation(int franchisee) throws IndexOutOfBoundsException {
        requireFranchisee(franchisee);
        return present.franchisees.generations[franchisee];
    }

    public int worth(int franchisee) throws IndexOutOfBoundsException {
        requireFranchisee(franchisee);
        return present.franchisees.worths[franchisee];
    }

    public boolean saveSnapshot(int slot) {
        if (slot < 0 || slot >= SNAPSHOTS) {
            return false;
        }
        snapshots[slot].copyFrom(present);
        saved[slot] = true;
        return true;
    }

    public boolean restoreSnapshot(int slot) {
        if (slot < 0 || slot >= SNAPSHOTS || !saved[slot]) {
            return false;
        }
        present.copyFrom(snapshots[slot]);
        return true;
    }

    public int formatInvoice(int franchisee, int month) throws IndexOutOfBoundsException, IllegalArgumentException {
        requireFranchisee(franchisee);
        requireClosedMonth(month);
        formatted.write(present.books, franchisee, month);
        return formatted.length;
    }

    public int formattedByte(int index) {
        return index < 0 || index >= formatted.length ? NONE : formatted.bytes[index];
    }

    private void finishReading() {
        lastError = input.error;
        lastErrorPosition = input.errorStart;
        input.length = 0;
    }

    private void requireFranchisee(int franchisee) {
        if (!present.franchisees.has(franchisee)) {
            throw new IndexOutOfBoundsException("no such franchisee");
        }
    }

    private void requireOutlet(int outlet) {
        if (!present.outlets.has(outlet)) {
            throw new IndexOutOfBoundsException("no such outlet");
        }
    }

    private void requirePlan(int plan) {
        if (plan < 0 || plan >= present.terms.planCount) {
            throw new IndexOutOfBoundsException("no such plan");
        }
    }

    private void requireClosedMonth(int month) {
        if (month < 0 || month >= present.books.month) {
            throw new IllegalArgumentException("not a closed month");
        }
    }

    private void requireOpenMonth() {
        if (!present.books.hasOpenMonth()) {
            throw new IllegalStateException("all months are closed");
        }
    }

    private static void requireAmount(long amount) {
        requireArgument(amount >= 1 && amount <= MAX_AMOUNT);
    }

    private static void requireArgument(boolean allowed) {
        if (!allowed) {
            throw new IllegalArgumentException("an argument is out of range");
        }
    }

    private static int cellCode(int x, int y) {
        return 100 * y + x;
    }

    /** A rate of an amount, rounded half up. */
    private static long rateOf(long amount, long rate) {
        return (amount * rate + BASIS_POINTS / 2) / BASIS_POINTS;
    }

    /** The plans and the other rates and amounts of the contract. */
    private static final class Terms {
        static final int STEPS = MAX_TIERS + 1;

        final int[] advertising = new int[MAX_PLANS];
        final int[] stepCounts = new int[MAX_PLANS];
        // The base is the first step of a plan, with the threshold 0.
        final long[] thresholds = new long[MAX_PLANS * STEPS];
        final int[] rates = new int[MAX_PLANS * STEPS];
        int planCount;
        int creditRate;
        long creditCap;
        int interestRate;
        int adminRate;
        long fee;
        int delay;
        int leastWorth;

        void clear() {
            planCount = 0;
            creditRate = 0;
            creditCap = 0;
            interestRate = 0;
            adminRate = 0;
            fee = 0;
            delay = 0;
            leastWorth = 0;
        }

        void addPlan(int advertisingRate, int baseRate) {
            if (planCount >= MAX_PLANS) {
                return;
            }
            advertising[planCount] = advertisingRate;
            stepCounts[planCount] = 0;
            planCount++;
            addStep(0, baseRate);
        }

        /** Adds a step to the last plan. */
        void addStep(long threshold, int rate) {
            int plan = planCount - 1;
            if (plan < 0 || stepCounts[plan] >= STEPS) {
                return;
            }
            int step = plan * STEPS + stepCounts[plan];
            thresholds[step] = threshold;
            rates[step] = rate;
            stepCounts[plan]++;
        }

        long royaltyFor(int plan, long sales) {
            long sum = 0;
            int first = plan * STEPS;
            int last = first + stepCounts[plan] - 1;
            for (int step = first; step <= last; step++) {
                long top = step < last ? Math.min(sales, thresholds[step + 1]) : sales;
                if (top > thresholds[step]) {
                    sum += (top - thresholds[step]) * rates[step];
                }
            }
            // The sum has been multiplied by the rates already.
            return rateOf(sum, 1);
        }

        long contributionFor(int plan, long sales) {
            return rateOf(sales, advertising[plan]);
        }

        int cheapestFor(long sales) {
            int cheapest = 0;
            long least = Long.MAX_VALUE;
            for (int plan = 0; plan < planCount; plan++) {
                long cost = royaltyFor(plan, sales) + contributionFor(plan, sales);
                if (cost < least) {
                    least = cost;
                    cheapest = plan;
                }
            }
            return cheapest;
        }
    }

    /** The cells, each with its franchisee or NONE. */
    private static final class Grid {
        private final int[] owners = new int[CELLS];
        // Room for isWhole(), made once because every call's objects are counted.
        private final int[] queue = new int[CELLS];
        private final int[] reached = new int[CELLS];
        private int queued;

        static boolean contains(int x, int y) {
            return x >= 0 && x < SIDE && y >= 0 && y < SIDE;
        }

        static int steps(int x1, int y1, int x2, int y2) {
            return Math.abs(x1 - x2) + Math.abs(y1 - y2);
        }

        void clear() {
            Arrays.fill(owners, NONE);
        }

        void copyFrom(Grid other) {
            System.arraycopy(other.owners, 0, owners, 0, CELLS);
        }

        int ownerAt(int x, int y) {
            return contains(x, y) ? owners[y * SIDE + x] : NONE;
        }

        private boolean belongs(int franchisee, int x, int y) {
            return contains(x, y) && owners[y * SIDE + x] == franchisee;
        }

        /** Tells whether a rectangle has a cell of a franchisee other than this one. */
        boolean anyOfOthers(int franchisee, int x1, int y1, int x2, int y2) {
            for (int y = y1; y < y2; y++) {
                for (int x = x1; x < x2; x++) {
                    int owner = ownerAt(x, y);
                    if (owner != NONE && owner != franchisee) {
                        return true;
                    }
                }
            }
            return false;
        }

        /** Gives the cells of a rectangle that belong to from (or to none, if from is NONE) to another franchisee. */
        int move(int from, int to, int x1, int y1, int x2, int y2) {
            int moved = 0;
            for (int y = y1; y < y2; y++) {
                for (int x = x1; x < x2; x++) {
                    if (belongs(from, x, y)) {
                        owners[y * SIDE + x] = to;
                        moved++;
                    }
                }
            }
            return moved;
        }

        int sizeOf(int franchisee) {
            int size = 0;
            for (int cell = 0; cell < CELLS; cell++) {
                if (owners[cell] == franchisee) {
                    size++;
                }
            }
            return size;
        }

        int outerSides(int franchisee) {
            int sides = 0;
            for (int cell = 0; cell < CELLS; cell++) {
                if (owners[cell] == franchisee) {
                    sides += 4 - neighboursOf(franchisee, cell);
                }
            }
            return sides;
        }

        int sharedSides(int franchisee, int other) {
            int sides = 0;
            for (int cell = 0; cell < CELLS; cell++) {
                if (owners[cell] == franchisee) {
                    sides += neighboursOf(other, cell);
                }
            }
            return sides;
        }

        private int neighboursOf(int franchisee, int cell) {
            int x = cell % SIDE;
            int y = cell / SIDE;
            return (belongs(franchisee, x - 1, y) ? 1 : 0) + (belongs(franchisee, x + 1, y) ? 1 : 0)
                    + (belongs(franchisee, x, y - 1) ? 1 : 0) + (belongs(franchisee, x, y + 1) ? 1 : 0);
        }

        boolean isWhole(int franchisee) {
            int size = sizeOf(franchisee);
            if (size == 0) {
                return false;
            }
            Arrays.fill(reached, 0);
            queued = 0;
            for (int cell = 0; cell < CELLS && queued == 0; cell++) {
                reach(franchisee, cell % SIDE, cell / SIDE);
            }
            for (int next = 0; next < queued; next++) {
                int x = queue[next] % SIDE;
                int y = queue[next] / SIDE;
                reach(franchisee, x - 1, y);
                reach(franchisee, x + 1, y);
                reach(franchisee, x, y - 1);
                reach(franchisee, x, y + 1);
            }
            return queued == size;
        }

        private void reach(int franchisee, int x, int y) {
            if (!belongs(franchisee, x, y) || queued >= CELLS) {
                return;
            }
            int cell = y * SIDE + x;
            if (reached[cell] == 0) {
                reached[cell] = 1;
                queue[queued] = cell;
                queued++;
            }
        }

        int leastDistance(int franchisee, int x, int y) {
            int least = FAR;
            for (int cell = 0; cell < CELLS; cell++) {
                if (owners[cell] == franchisee) {
                    least = Math.min(least, steps(x, y, cell % SIDE, cell / SIDE));
                }
            }
            return least == FAR ? NONE : least;
        }

        int bestHalving(int franchisee) {
            int size = sizeOf(franchisee);
            if (size == 0) {
                return NONE;
            }
            int best = NONE;
            int least = size + 1;
            int before = 0;
            for (int k = 1; k < SIDE; k++) {
                before += sizeWithin(franchisee, k - 1, 0, k, SIDE);
                if (Math.abs(size - 2 * before) < least) {
                    least = Math.abs(size - 2 * before);
                    best = k;
                }
            }
            before = 0;
            for (int k = 1; k < SIDE; k++) {
                before += sizeWithin(franchisee, 0, k - 1, SIDE, k);
                if (Math.abs(size - 2 * before) < least) {
                    least = Math.abs(size - 2 * before);
                    best = 100 + k;
                }
            }
            return best;
        }

        private int sizeWithin(int franchisee, int x1, int y1, int x2, int y2) {
            int size = 0;
            for (int y = y1; y < y2; y++) {
                for (int x = x1; x < x2; x++) {
                    if (belongs(franchisee, x, y)) {
                        size++;
                    }
                }
            }
            return size;
        }
    }

    /** The outlets with their sales in the present month; a closed one has the owner NONE. */
    private static final class Outlets {
        final int[] owners = new int[MAX_OUTLETS];
        final int[] xs = new int[MAX_OUTLETS];
        final int[] ys = new int[MAX_OUTLETS];
        final long[] sales = new long[MAX_OUTLETS];
        int count;

        void copyFrom(Outlets other) {
            System.arraycopy(other.owners, 0, owners, 0, MAX_OUTLETS);
            System.arraycopy(other.xs, 0, xs, 0, MAX_OUTLETS);
            System.arraycopy(other.ys, 0, ys, 0, MAX_OUTLETS);
            System.arraycopy(other.sales, 0, sales, 0, MAX_OUTLETS);
            count = other.count;
        }

        boolean has(int outlet) {
            return outlet >= 0 && outlet < count;
        }

        int add(int franchisee, int x, int y) {
            if (count >= MAX_OUTLETS) {
                return FULL;
            }
            int outlet = count;
            owners[outlet] = franchisee;
            xs[outlet] = x;
            ys[outlet] = y;
            sales[outlet] = 0;
            count++;
            return outlet;
        }

        boolean anyWithin(int franchisee, int x1, int y1, int x2, int y2) {
            for (int i = 0; i < count; i++) {
                if (owners[i] == franchisee && xs[i] >= x1 && xs[i] < x2 && ys[i] >= y1 && ys[i] < y2) {
                    return true;
                }
            }
            return false;
        }

        /** The least distance to an open outlet of a franchisee, or of ANYBODY; FAR without one. */
        int nearest(int franchisee, int x, int y) {
            int least = FAR;
            for (int i = 0; i < count; i++) {
                if (owners[i] != NONE && (franchisee == ANYBODY || owners[i] == franchisee)) {
                    least = Math.min(least, Grid.steps(x, y, xs[i], ys[i]));
                }
            }
            return least;
        }

        void closeAllOf(int franchisee) {
            for (int i = 0; i < count; i++) {
                if (owners[i] == franchisee) {
                    owners[i] = NONE;
                }
            }
        }

        long replaceSales(int outlet, long amount) {
            if (owners[outlet] == NONE) {
                return NONE;
            }
            long previous = sales[outlet];
            sales[outlet] = amount;
            return previous;
        }

        long salesTogether(int franchisee) {
            return scaledSales(franchisee, 100);
        }

        long scaledSales(int franchisee, int percent) {
            long sum = 0;
            for (int i = 0; i < count; i++) {
                if (owners[i] == franchisee) {
                    sum += sales[i] * percent / 100;
                }
            }
            return sum;
        }
    }

    private static final class Franchisees {
        private final byte[] letters = new byte[MAX_FRANCHISEES * MAX_LETTERS];
        private final int[] nameLengths = new int[MAX_FRANCHISEES];
        final int[] plans = new int[MAX_FRANCHISEES];
        final int[] worths = new int[MAX_FRANCHISEES];
        final int[] statuses = new int[MAX_FRANCHISEES];
        final int[] generations = new int[MAX_FRANCHISEES];
        final int[] overdue = new int[MAX_FRANCHISEES];
        final long[] balances = new long[MAX_FRANCHISEES];
        int count;

        void copyFrom(Franchisees other) {
            System.arraycopy(other.plans, 0, plans, 0, MAX_FRANCHISEES);
            System.arraycopy(other.worths, 0, worths, 0, MAX_FRANCHISEES);
            System.arraycopy(other.statuses, 0, statuses, 0, MAX_FRANCHISEES);
            System.arraycopy(other.generations, 0, generations, 0, MAX_FRANCHISEES);
            System.arraycopy(other.overdue, 0, overdue, 0, MAX_FRANCHISEES);
            System.arraycopy(other.balances, 0, balances, 0, MAX_FRANCHISEES);
        }

        boolean has(int franchisee) {
            return franchisee >= 0 && franchisee < count;
        }

        boolean isActive(int franchisee) {
            return has(franchisee) && statuses[franchisee] == ACTIVE;
        }

        void add(byte[] text, int start, int length, int plan, int worth) {
            if (count >= MAX_FRANCHISEES || length < 0 || length > MAX_LETTERS || start < 0
                    || start > text.length - length) {
                return;
            }
            System.arraycopy(text, start, letters, count * MAX_LETTERS, length);
            nameLengths[count] = length;
            plans[count] = plan;
            worths[count] = worth;
            statuses[count] = ACTIVE;
            generations[count] = 0;
            overdue[count] = 0;
            balances[count] = 0;
            count++;
        }

        /** The franchisee whose name is this part of a text. */
        int named(byte[] text, int start, int length) {
            for (int i = 0; i < count; i++) {
                if (nameLengths[i] == length && hasLetters(i, text, start)) {
                    return i;
                }
            }
            return NONE;
        }

        private boolean hasLetters(int franchisee, byte[] text, int start) {
            int length = nameLengths[franchisee];
            if (start < 0 || start > text.length - length) {
                return false;
            }
            for (int i = 0; i < length; i++) {
                if (letters[franchisee * MAX_LETTERS + i] != text[start + i]) {
                    return false;
                }
            }
            return true;
        }

        long lowerBalance(int franchisee, long amount) {
            balances[franchisee] -= amount;
            return balances[franchisee];
        }

        long owedBy(int franchisee) {
            return Math.max(balances[franchisee], 0);
        }

        long owedTogether() {
            long sum = 0;
            for (int i = 0; i < count; i++) {
                sum += owedBy(i);
            }
            return sum;
        }
    }

    /** The one transfer of each franchisee. */
    private static final class Transfers {
        final int[] states = new int[MAX_FRANCHISEES];
        final int[] months = new int[MAX_FRANCHISEES];
        final int[] buyerWorths = new int[MAX_FRANCHISEES];
        final long[] prices = new long[MAX_FRANCHISEES];
        private final int[] yesVoters = new int[MAX_FRANCHISEES];
        private final int[] noVoters = new int[MAX_FRANCHISEES];

        void clear() {
            Arrays.fill(states, NO_TRANSFER);
        }

        void copyFrom(Transfers other) {
            System.arraycopy(other.states, 0, states, 0, MAX_FRANCHISEES);
            System.arraycopy(other.months, 0, months, 0, MAX_FRANCHISEES);
            System.arraycopy(other.buyerWorths, 0, buyerWorths, 0, MAX_FRANCHISEES);
            System.arraycopy(other.prices, 0, prices, 0, MAX_FRANCHISEES);
            System.arraycopy(other.yesVoters, 0, yesVoters, 0, MAX_FRANCHISEES);
            System.arraycopy(other.noVoters, 0, noVoters, 0, MAX_FRANCHISEES);
        }

        boolean isOpen(int franchisee) {
            return states[franchisee] == REQUESTED || states[franchisee] == APPROVED;
        }

        void begin(int franchisee, int month, int worth, long price) {
            states[franchisee] = REQUESTED;
            months[franchisee] = month;
            buyerWorths[franchisee] = worth;
            prices[franchisee] = price;
            yesVoters[franchisee] = 0;
            noVoters[franchisee] = 0;
        }

        /** Gives an open transfer its last state; false if it is not open. */
        boolean endOpen(int franchisee, int state) {
            if (!isOpen(franchisee)) {
                return false;
            }
            states[franchisee] = state;
            return true;
        }

        int addVote(int franchisee, int member, boolean yes) {
            int voter = 1 << member;
            boolean voted = ((yesVoters[franchisee] | noVoters[franchisee]) & voter) != 0;
            if (states[franchisee] != REQUESTED || voted) {
                return NONE;
            }
            if (yes) {
                yesVoters[franchisee] |= voter;
            } else {
                noVoters[franchisee] |= voter;
            }
            if (Integer.bitCount(yesVoters[franchisee]) >= MAJORITY) {
                states[franchisee] = APPROVED;
            } else if (Integer.bitCount(noVoters[franchisee]) >= MAJORITY) {
                states[franchisee] = REJECTED;
            }
            return states[franchisee];
        }
    }

    /** The present month, what closed months have left behind, and the fund. */
    private static final class Books {
        private final long[] monthlySales = new long[MONTHS * MAX_FRANCHISEES];
        private final long[] invoices = new long[MONTHS * MAX_FRANCHISEES * PARTS];
        private final long[] deliveries = new long[MAX_FRANCHISEES * MAX_FRANCHISEES];
        final long[] contributed = new long[MAX_FRANCHISEES];
        private final long[] granted = new long[MAX_FRANCHISEES];
        final long[] spending = new long[KINDS_OF_SPENDING];
        int month;

        void clear() {
            Arrays.fill(deliveries, 0);
            Arrays.fill(contributed, 0);
            Arrays.fill(granted, 0);
            Arrays.fill(spending, 0);
            month = 0;
        }

        void copyFrom(Books other) {
            // Rows of months that are not closed yet are written before they are read.
            int closed = Math.max(0, Math.min(other.month, MONTHS)) * MAX_FRANCHISEES;
            System.arraycopy(other.monthlySales, 0, monthlySales, 0, closed);
            System.arraycopy(other.invoices, 0, invoices, 0, closed * PARTS);
            System.arraycopy(other.deliveries, 0, deliveries, 0, MAX_FRANCHISEES * MAX_FRANCHISEES);
            System.arraycopy(other.contributed, 0, contributed, 0, MAX_FRANCHISEES);
            System.arraycopy(other.granted, 0, granted, 0, MAX_FRANCHISEES);
            System.arraycopy(other.spending, 0, spending, 0, KINDS_OF_SPENDING);
            month = other.month;
        }

        boolean hasOpenMonth() {
            return month >= 0 && month < MONTHS;
        }

        private static int rowOf(int franchisee, int month) {
            return month * MAX_FRANCHISEES + franchisee;
        }

        long salesIn(int franchisee, int closedMonth) {
            return monthlySales[rowOf(franchisee, closedMonth)];
        }

        long invoicePart(int franchisee, int closedMonth, int part) {
            return invoices[rowOf(franchisee, closedMonth) * PARTS + part];
        }

        /** Writes the invoice of the present month. */
        void enterInvoice(int franchisee, long[] parts) {
            System.arraycopy(parts, 0, invoices, rowOf(franchisee, month) * PARTS, PARTS);
        }

        void enterBalance(int franchisee, long balance) {
            invoices[rowOf(franchisee, month) * PARTS + BALANCE_PART] = balance;
        }

        void enterSales(int franchisee, long sales) {
            monthlySales[rowOf(franchisee, month)] = sales;
        }

        int atPlace(int place, int count) {
            for (int i = 0; i < count; i++) {
                int before = 0;
                for (int other = 0; other < count; other++) {
                    if (ranksBefore(other, i)) {
                        before++;
                    }
                }
                if (before == place) {
                    return i;
                }
            }
            return NONE;
        }

        private boolean ranksBefore(int one, int two) {
            long first = salesOfAllMonths(one);
            long second = salesOfAllMonths(two);
            return first > second || (first == second && one < two);
        }

        private long salesOfAllMonths(int franchisee) {
            long sum = 0;
            for (int closed = 0; closed < month; closed++) {
                sum += salesIn(franchisee, closed);
            }
            return sum;
        }

        long delivered(int from, int to) {
            return deliveries[from * MAX_FRANCHISEES + to];
        }

        void addDelivered(int from, int to, long amount) {
            deliveries[from * MAX_FRANCHISEES + to] += amount;
        }

        void forgetDeliveries() {
            Arrays.fill(deliveries, 0);
        }

        private long allContributed() {
            long sum = 0;
            for (int i = 0; i < MAX_FRANCHISEES; i++) {
                sum += contributed[i];
            }
            return sum;
        }

        long fundLeft() {
            return allContributed() - spending[ADMIN] - spending[NATIONAL] - spending[LOCAL];
        }

        long allowanceLeft(int franchisee) {
            return contributed[franchisee] / 2 - granted[franchisee];
        }

        boolean spendNational(long amount) {
            if (amount > fundLeft()) {
                return false;
            }
            spending[NATIONAL] += amount;
            return true;
        }

        boolean spendGrant(int franchisee, long amount) {
            if (amount > allowanceLeft(franchisee) || amount > fundLeft()) {
                return false;
            }
            granted[franchisee] += amount;
            spending[LOCAL] += amount;
            return true;
        }

        long shareOfNational(int franchisee) {
            long all = allContributed();
            if (all <= 0) {
                return 0;
            }
            long product = spending[NATIONAL] * contributed[franchisee];
            long remainder = product % all;
            long centsLeft = spending[NATIONAL];
            int servedBefore = 0;
            for (int i = 0; i < MAX_FRANCHISEES; i++) {
                long otherProduct = spending[NATIONAL] * contributed[i];
                long otherRemainder = otherProduct % all;
                centsLeft -= otherProduct / all;
                if (otherRemainder > remainder || (otherRemainder == remainder && i < franchisee)) {
                    servedBefore++;
                }
            }
            return product / all + (servedBefore < centsLeft ? 1 : 0);
        }
    }

    /** A franchise system as a load makes it and calls change it, and what concerns several parts of it. */
    private static final class Business {
        final Terms terms = new Terms();
        final Grid grid = new Grid();
        final Outlets outlets = new Outlets();
        final Franchisees franchisees = new Franchisees();
        final Transfers transfers = new Transfers();
        final Books books = new Books();
        // What calculate() answers; kept here because every call's objects are counted.
        final long[] parts = new long[PARTS];

        void clear() {
            terms.clear();
            grid.clear();
            outlets.count = 0;
            franchisees.count = 0;
            transfers.clear();
            books.clear();
        }

        /** Copies what can change between two loads; a load ends the snapshots, so the rest is always the same. */
        void copyFrom(Business other) {
            grid.copyFrom(other.grid);
            outlets.copyFrom(other.outlets);
            franchisees.copyFrom(other.franchisees);
            transfers.copyFrom(other.transfers);
            books.copyFrom(other.books);
        }

        /** Tells whether a cell belongs to a franchisee and has no open outlet. */
        boolean hasFreeCell(int franchisee, int x, int y) {
            return grid.ownerAt(x, y) == franchisee && outlets.nearest(ANYBODY, x, y) > 0;
        }

        int farthestCell(int franchisee) {
            int best = NONE;
            // A cell with an open outlet has the distance 0, so it is never greater.
            int greatest = 0;
            for (int y = 0; y < SIDE; y++) {
                for (int x = 0; x < SIDE; x++) {
                    int nearest = grid.ownerAt(x, y) == franchisee ? outlets.nearest(ANYBODY, x, y) : 0;
                    if (nearest > greatest) {
                        greatest = nearest;
                        best = cellCode(x, y);
                    }
                }
            }
            return best;
        }

        int cellsWithin(int franchisee, int radius) {
            int cells = 0;
            for (int y = 0; y < SIDE; y++) {
                for (int x = 0; x < SIDE; x++) {
                    if (grid.ownerAt(x, y) == franchisee && outlets.nearest(franchisee, x, y) <= radius) {
                        cells++;
                    }
                }
            }
            return cells;
        }

        int cellsNearerTo(int franchisee, int other) {
            int cells = 0;
            for (int y = 0; y < SIDE; y++) {
                for (int x = 0; x < SIDE; x++) {
                    if (grid.ownerAt(x, y) == franchisee
                            && outlets.nearest(other, x, y) < outlets.nearest(franchisee, x, y)) {
                        cells++;
                    }
                }
            }
            return cells;
        }

        long addDelivery(int outlet, int x, int y, long amount) {
            int from = outlets.owners[outlet];
            if (from == NONE) {
                return NONE;
            }
            if (outlets.sales[outlet] + amount > MAX_SALES) {
                return FULL;
            }
            outlets.sales[outlet] += amount;
            int to = grid.ownerAt(x, y);
            if (to != from && franchisees.isActive(from) && franchisees.isActive(to)) {
                books.addDelivered(from, to, amount);
            }
            return outlets.sales[outlet];
        }

        long creditBetween(int from, int to) {
            return Math.min(rateOf(books.delivered(from, to), terms.creditRate), terms.creditCap);
        }

        private long creditsPaid(int franchisee) {
            long sum = 0;
            for (int other = 0; other < franchisees.count; other++) {
                sum += creditBetween(franchisee, other);
            }
            return sum;
        }

        private long creditsReceived(int franchisee) {
            long sum = 0;
            for (int other = 0; other < franchisees.count; other++) {
                sum += creditBetween(other, franchisee);
            }
            return sum;
        }

        private long interestOn(long owed) {
            return rateOf(owed, terms.interestRate);
        }

        /** Fills the parts of an invoice for these sales, but for its balance. */
        void calculate(int franchisee, long sales) {
            Arrays.fill(parts, 0);
            if (!franchisees.isActive(franchisee)) {
                return;
            }
            int plan = franchisees.plans[franchisee];
            parts[ROYALTY_PART] = terms.royaltyFor(plan, sales);
            parts[CONTRIBUTION_PART] = terms.contributionFor(plan, sales);
            parts[INTEREST_PART] = interestOn(franchisees.owedBy(franchisee));
            parts[PAID_PART] = creditsPaid(franchisee);
            parts[RECEIVED_PART] = creditsReceived(franchisee);
            parts[DUE_PART] = parts[ROYALTY_PART] + parts[CONTRIBUTION_PART] + parts[INTEREST_PART]
                    + parts[PAID_PART] - parts[RECEIVED_PART];
        }

        /** Closes the present month; false if all months are closed. */
        boolean close() {
            if (!books.hasOpenMonth()) {
                return false;
            }
            long contributedNow = 0;
            for (int i = 0; i < franchisees.count; i++) {
                calculate(i, outlets.salesTogether(i));
                bill(i);
                contributedNow += parts[CONTRIBUTION_PART];
            }
            books.spending[ADMIN] += rateOf(contributedNow, terms.adminRate);
            for (int i = 0; i < franchisees.count; i++) {
                finishTransfer(i);
                books.enterBalance(i, franchisees.balances[i]);
                books.enterSales(i, outlets.salesTogether(i));
            }
            Arrays.fill(outlets.sales, 0);
            books.forgetDeliveries();
            books.month++;
            return true;
        }

        /** Charges a franchisee with the parts that have been calculated for it. */
        private void bill(int franchisee) {
            books.enterInvoice(franchisee, parts);
            if (!franchisees.isActive(franchisee)) {
                return;
            }
            boolean owes = franchisees.owedBy(franchisee) > 0;
            franchisees.overdue[franchisee] = owes ? franchisees.overdue[franchisee] + 1 : 0;
            franchisees.balances[franchisee] += parts[DUE_PART];
            books.contributed[franchisee] += parts[CONTRIBUTION_PART];
        }

        private void finishTransfer(int franchisee) {
            if (transfers.states[franchisee] != APPROVED || monthsOfDelayLeft(franchisee) > 0) {
                return;
            }
            transfers.states[franchisee] = DONE;
            franchisees.worths[franchisee] = transfers.buyerWorths[franchisee];
            franchisees.generations[franchisee]++;
            franchisees.overdue[franchisee] = 0;
            franchisees.balances[franchisee] += terms.fee;
        }

        int monthsOfDelayLeft(int franchisee) {
            return Math.max(0, terms.delay - (books.month - transfers.months[franchisee]));
        }

        boolean mayTransfer(int franchisee, int buyerWorth) {
            return franchisees.isActive(franchisee) && !transfers.isOpen(franchisee)
                    && franchisees.balances[franchisee] <= 0 && buyerWorth >= terms.leastWorth;
        }

        boolean takeOver(int franchisee) {
            if (monthsOfDelayLeft(franchisee) == 0 || !transfers.endOpen(franchisee, EXERCISED)) {
                return false;
            }
            franchisees.statuses[franchisee] = COMPANY;
            franchisees.lowerBalance(franchisee, transfers.prices[franchisee]);
            return true;
        }

        boolean endContract(int franchisee) {
            if (!franchisees.isActive(franchisee) || franchisees.overdue[franchisee] < OVERDUE_TO_TERMINATE) {
                return false;
            }
            franchisees.statuses[franchisee] = TERMINATED;
            outlets.closeAllOf(franchisee);
            grid.move(franchisee, NONE, 0, 0, SIDE, SIDE);
            transfers.endOpen(franchisee, REJECTED);
            return true;
        }

        boolean spendLocal(int franchisee, long amount) {
            if (!franchisees.isActive(franchisee) || !books.spendGrant(franchisee, amount)) {
                return false;
            }
            franchisees.lowerBalance(franchisee, amount);
            return true;
        }

        int monthsToPayOff(int franchisee, long payment) {
            long left = franchisees.balances[franchisee];
            for (int months = 0; months <= MAX_PAY_OFF; months++) {
                if (left <= 0) {
                    return months;
                }
                left += interestOn(left) - payment;
            }
            return NONE;
        }
    }

    /** The entries that have been read and not yet executed. */
    private static final class Journal {
        static final int SALES = 0;
        static final int DELIVER = 1;
        static final int PAY = 2;
        static final int GRANT = 3;
        static final int CAMPAIGN = 4;
        static final int VOTE = 5;
        static final int CLOSE = 6;

        private final int[] kinds = new int[MAX_ENTRIES];
        // The outlet or the franchisee that the entry concerns.
        private final int[] subjects = new int[MAX_ENTRIES];
        private final int[] xs = new int[MAX_ENTRIES];
        private final int[] ys = new int[MAX_ENTRIES];
        private final int[] members = new int[MAX_ENTRIES];
        private final boolean[] yes = new boolean[MAX_ENTRIES];
        private final long[] amounts = new long[MAX_ENTRIES];
        private int size;
        private int next;

        void clear() {
            size = 0;
            next = 0;
        }

        int left() {
            return size - next;
        }

        void readFrom(Tokens text, Franchisees franchisees) {
            clear();
            text.begin();
            // Every entry has a byte at least, so the text ends before the counter does.
            for (int i = 0; i <= MAX_INPUT && !text.failed(); i++) {
                text.advance();
                if (text.kind == Tokens.END) {
                    return;
                }
                readEntry(text, franchisees);
            }
        }

        private void readEntry(Tokens text, Franchisees franchisees) {
            int kind = kindOfWord(text);
            if (kind == NONE) {
                text.fail(SYNTAX_ERROR);
            } else if (size >= MAX_ENTRIES) {
                text.fail(LIMIT_ERROR);
            } else {
                kinds[size] = kind;
                readArguments(text, franchisees);
                text.endStatement();
                size++;
            }
        }

        private static int kindOfWord(Tokens text) {
            if (text.isWord("sales")) {
                return SALES;
            } else if (text.isWord("deliver")) {
                return DELIVER;
            } else if (text.isWord("pay")) {
                return PAY;
            } else if (text.isWord("grant")) {
                return GRANT;
            } else if (text.isWord("campaign")) {
                return CAMPAIGN;
            } else if (text.isWord("vote")) {
                return VOTE;
            }
            return text.isWord("close") ? CLOSE : NONE;
        }

        private void readArguments(Tokens text, Franchisees franchisees) {
            switch (kinds[size]) {
                case SALES:
                    subjects[size] = text.readNumber(0, MAX_OUTLETS - 1);
                    amounts[size] = text.readNumber(0, 100000) * CENTS;
                    break;
                case DELIVER:
                    subjects[size] = text.readNumber(0, MAX_OUTLETS - 1);
                    xs[size] = text.readNumber(0, SIDE - 1);
                    ys[size] = text.readNumber(0, SIDE - 1);
                    amounts[size] = text.readNumber(1, 100000) * CENTS;
                    break;
                case PAY:
                case GRANT:
                    subjects[size] = text.readName(franchisees, true);
                    amounts[size] = text.readNumber(1, 999999) * CENTS;
                    break;
                case CAMPAIGN:
                    amounts[size] = text.readNumber(1, 999999) * CENTS;
                    break;
                case VOTE:
                    subjects[size] = text.readName(franchisees, true);
                    members[size] = text.readNumber(0, COMMITTEE - 1);
                    yes[size] = text.readYes();
                    break;
                default:
                    break;
            }
        }

        /** Executes and removes the next entry; false if it fails. */
        boolean executeNext(Business business) {
            if (next < 0 || next >= size) {
                return false;
            }
            int entry = next;
            next++;
            switch (kinds[entry]) {
                case SALES:
                case DELIVER:
                    return executeSales(entry, business);
                case CAMPAIGN:
                    return business.books.spendNational(amounts[entry]);
                case CLOSE:
                    return business.close();
                default:
                    return executeForFranchisee(entry, business);
            }
        }

        private boolean executeSales(int entry, Business business) {
            int outlet = subjects[entry];
            if (!business.outlets.has(outlet) || !business.books.hasOpenMonth()) {
                return false;
            }
            if (kinds[entry] == SALES) {
                return business.outlets.replaceSales(outlet, amounts[entry]) >= 0;
            }
            return business.addDelivery(outlet, xs[entry], ys[entry], amounts[entry]) >= 0;
        }

        private boolean executeForFranchisee(int entry, Business business) {
            int franchisee = subjects[entry];
            if (!business.franchisees.has(franchisee)) {
                return false;
            }
            if (kinds[entry] == VOTE) {
                return business.transfers.addVote(franchisee, members[entry], yes[entry]) != NONE;
            }
            if (kinds[entry] == GRANT) {
                return business.spendLocal(franchisee, amounts[entry]);
            }
            business.franchisees.lowerBalance(franchisee, amounts[entry]);
            return true;
        }
    }

    /**
     * The input buffer and the token at which its reading stands. The first error stays; after it reading may go on
     * without harm, so that the readers need not ask after every token.
     */
    private static final class Tokens {
        static final int END = 0;
        static final int WORD = 1;
        static final int NUMBER = 2;
        static final int SEMICOLON = 3;
        static final int SEPARATOR = 4;
        static final int WRONG = 5;

        final byte[] bytes = new byte[MAX_INPUT];
        int length;
        int kind;
        int start;
        int end;
        int error;
        int errorStart;
        private int value;

        void addFourBytes(int word) {
            for (int shift = 24; shift >= 0 && length < MAX_INPUT; shift -= 8) {
                bytes[length] = (byte) (word >> shift);
                length++;
            }
        }

        void begin() {
            end = 0;
            error = NO_ERROR;
            errorStart = NONE;
        }

        boolean failed() {
            return error != NO_ERROR;
        }

        void fail(int code) {
            if (!failed()) {
                error = code;
                errorStart = start;
            }
        }

        /** The kind of token to which a byte belongs; END behind the text. */
        private int kindAt(int index) {
            if (index < 0 || index >= length || index >= MAX_INPUT) {
                return END;
            }
            int sign = bytes[index];
            if (sign >= 'a' && sign <= 'z') {
                return WORD;
            } else if (sign >= '0' && sign <= '9') {
                return NUMBER;
            } else if (sign == ' ' || sign == '\n') {
                return SEPARATOR;
            }
            return sign == ';' ? SEMICOLON : WRONG;
        }

        void advance() {
            while (end < length && kindAt(end) == SEPARATOR) {
                end++;
            }
            start = end;
            kind = kindAt(start);
            value = 0;
            boolean isRun = kind == WORD || kind == NUMBER;
            while (isRun && end < length && kindAt(end) == kind) {
                value = value * 10 + bytes[end] - '0';
                end++;
            }
            if (kind == SEMICOLON) {
                end++;
            } else if (isRun && end - start > (kind == WORD ? MAX_LETTERS : MAX_DIGITS)) {
                kind = WRONG;
            }
        }

        boolean isWord(String word) {
            if (kind != WORD || end - start != word.length()) {
                return false;
            }
            for (int i = 0; i < word.length(); i++) {
                if (bytes[start + i] != word.charAt(i)) {
                    return false;
                }
            }
            return true;
        }

        private boolean isReserved() {
            return isWord("plan") || isWord("franchisee") || isWord("area") || isWord("outlet") || isWord("credit")
                    || isWord("interest") || isWord("admin") || isWord("fee") || isWord("delay") || isWord("worth");
        }

        /** Looks at the next token, which is then read once more. */
        boolean semicolonAhead() {
            advance();
            end = start;
            return kind == SEMICOLON;
        }

        void endStatement() {
            advance();
            if (kind != SEMICOLON) {
                fail(SYNTAX_ERROR);
            }
        }

        /** Reads a number; on an error the answer is the least one. */
        int readNumber(int least, int most) {
            advance();
            if (kind != NUMBER) {
                fail(SYNTAX_ERROR);
                return least;
            }
            if (value < least || value > most) {
                fail(RANGE_ERROR);
                return least;
            }
            return value;
        }

        /** Reads a NAME, either a known or a new one, and returns its franchisee; NONE if there is none. */
        int readName(Franchisees franchisees, boolean known) {
            advance();
            if (kind != WORD || isReserved()) {
                fail(SYNTAX_ERROR);
            }
            int franchisee = franchisees.named(bytes, start, end - start);
            if (known != (franchisee != NONE)) {
                fail(NAME_ERROR);
            }
            return franchisee;
        }

        boolean readYes() {
            advance();
            if (!isWord("yes") && !isWord("no")) {
                fail(SYNTAX_ERROR);
            }
            return isWord("yes");
        }
    }

    /** Reads the text of a system. */
    private static final class SystemReader {
        /** Fills a cleared business and returns the number of statements; what it holds after an error is free. */
        static int read(Tokens text, Business business) {
            text.begin();
            int statements = 0;
            // Every statement has a byte at least, so the text ends before the counter does.
            for (int i = 0; i <= MAX_INPUT && !text.failed(); i++) {
                text.advance();
                if (text.kind == Tokens.END) {
                    return statements;
                }
                readStatement(text, business);
                statements++;
            }
            return statements;
        }

        private static void readStatement(Tokens text, Business business) {
            if (text.isWord("plan")) {
                readPlan(text, business.terms);
            } else if (text.isWord("franchisee")) {
                readFranchisee(text, business);
            } else if (text.isWord("area")) {
                readArea(text, business);
            } else if (text.isWord("outlet")) {
                readOutlet(text, business);
            } else {
                readTerm(text, business.terms);
            }
            text.endStatement();
        }

        private static void readTerm(Tokens text, Terms terms) {
            if (text.isWord("credit")) {
                terms.creditRate = text.readNumber(0, 5000);
                terms.creditCap = text.readNumber(0, 9999) * CENTS;
            } else if (text.isWord("interest")) {
                terms.interestRate = text.readNumber(0, 500);
            } else if (text.isWord("admin")) {
                terms.adminRate = text.readNumber(0, 2000);
            } else if (text.isWord("fee")) {
                terms.fee = text.readNumber(0, 9999) * CENTS;
            } else if (text.isWord("delay")) {
                terms.delay = text.readNumber(0, 12);
            } else if (text.isWord("worth")) {
                terms.leastWorth = text.readNumber(0, MAX_WORTH);
            } else {
                text.fail(SYNTAX_ERROR);
            }
        }

        private static void readPlan(Tokens text, Terms terms) {
            if (terms.planCount >= MAX_PLANS) {
                text.fail(LIMIT_ERROR);
                return;
            }
            int advertising = text.readNumber(0, 1000);
            terms.addPlan(advertising, text.readNumber(0, 3000));
            int least = 1;
            for (int tier = 0; tier <= MAX_TIERS && !text.failed() && !text.semicolonAhead(); tier++) {
                int threshold = text.readNumber(least, 99999);
                if (tier == MAX_TIERS) {
                    text.fail(LIMIT_ERROR);
                }
                terms.addStep(threshold * CENTS, text.readNumber(0, 3000));
                least = threshold + 1;
            }
        }

        private static void readFranchisee(Tokens text, Business business) {
            if (business.franchisees.count >= MAX_FRANCHISEES) {
                text.fail(LIMIT_ERROR);
                return;
            }
            text.readName(business.franchisees, false);
            int start = text.start;
            int length = text.end - start;
            int plan = text.readNumber(0, business.terms.planCount - 1);
            int worth = text.readNumber(0, MAX_WORTH);
            if (!text.failed()) {
                business.franchisees.add(text.bytes, start, length, plan, worth);
            }
        }

        private static void readArea(Tokens text, Business business) {
            int franchisee = text.readName(business.franchisees, true);
            int x1 = text.readNumber(0, SIDE - 1);
            int y1 = text.readNumber(0, SIDE - 1);
            int x2 = text.readNumber(x1 + 1, SIDE);
            int y2 = text.readNumber(y1 + 1, SIDE);
            if (business.grid.anyOfOthers(franchisee, x1, y1, x2, y2)) {
                text.fail(CONFLICT_ERROR);
            }
            business.grid.move(NONE, franchisee, x1, y1, x2, y2);
        }

        private static void readOutlet(Tokens text, Business business) {
            if (business.outlets.count >= MAX_OUTLETS) {
                text.fail(LIMIT_ERROR);
                return;
            }
            int franchisee = text.readName(business.franchisees, true);
            int x = text.readNumber(0, SIDE - 1);
            int y = text.readNumber(0, SIDE - 1);
            if (!business.hasFreeCell(franchisee, x, y)) {
                text.fail(CONFLICT_ERROR);
            }
            business.outlets.add(franchisee, x, y);
        }
    }

    /** The invoice that was formatted last. */
    private static final class InvoiceText {
        final byte[] bytes = new byte[MAX_FORMATTED];
        int length;

        void write(Books books, int franchisee, int month) {
            length = 0;
            addPart("royalty ", books.invoicePart(franchisee, month, ROYALTY_PART));
            addPart(" ad ", books.invoicePart(franchisee, month, CONTRIBUTION_PART));
            addPart(" interest ", books.invoicePart(franchisee, month, INTEREST_PART));
            addPart(" paid ", books.invoicePart(franchisee, month, PAID_PART));
            addPart(" received ", books.invoicePart(franchisee, month, RECEIVED_PART));
            addPart(" due ", books.invoicePart(franchisee, month, DUE_PART));
            addPart(" balance ", books.invoicePart(franchisee, month, BALANCE_PART));
        }

        private void addPart(String label, long cents) {
            for (int i = 0; i < label.length(); i++) {
                addByte(label.charAt(i));
            }
            if (cents < 0) {
                addByte('-');
            }
            long size = Math.abs(cents);
            addWhole(size / CENTS);
            addByte('.');
            addDigit(size / 10);
            addDigit(size);
        }

        private void addWhole(long dollars) {
            long unit = 1;
            for (int digits = 1; digits < 18 && dollars / unit >= 10; digits++) {
                unit *= 10;
            }
            for (; unit > 0; unit /= 10) {
                addDigit(dollars / unit);
            }
        }

        private void addDigit(long number) {
            addByte('0' + (int) (number % 10));
        }

        private void addByte(int sign) {
            if (length < MAX_FORMATTED) {
                bytes[length] = (byte) sign;
                length++;
            }
        }
    }
}
