import java.util.IdentityHashMap;
import java.util.Map;
import java.util.function.Supplier;

/** Ledgers in states that the tests of boundaries begin with, and the test that a refused call leaves them alone. */
final class Ledgers {
    static final int ANN = 0;
    static final int BOB = 1;
    static final int CY = 2;
    static final int DI = 3;
    static final int ED = 4;

    static final Supplier<FranchiseLedger> EMPTY = FranchiseLedger::new;
    static final Supplier<FranchiseLedger> BUSY = Ledgers::busy;
    static final Supplier<FranchiseLedger> FULL = Ledgers::full;
    static final Supplier<FranchiseLedger> OVER = Ledgers::over;

    private static final String SYSTEM = "plan 500 1000 100 2000;plan 100 300;"
            + "franchisee ann 0 50;franchisee bob 1 60;franchisee cy 0 70;franchisee di 1 80;franchisee ed 0 90;"
            + "area ann 0 0 6 4;area bob 6 0 10 4;area cy 0 4 4 8;area di 20 20 24 24;"
            + "outlet ann 1 1;outlet ann 4 2;outlet bob 7 1;outlet cy 1 5;outlet di 21 21;"
            + "credit 1000 50;interest 100;admin 1000;fee 10;delay 3;worth 20;";
    private static final Map<Supplier<FranchiseLedger>, String> UNTOUCHED = new IdentityHashMap<>();

    private Ledgers() {
    }

    interface Call {
        long on(FranchiseLedger x);
    }

    interface Question {
        boolean on(FranchiseLedger x);
    }

    /** A call with an index among its arguments, all others of which are right. */
    interface Indexed {
        long on(FranchiseLedger x, int index);
    }

    /** The call has to give this answer, or to throw this, and to change nothing at all. */
    static void dueRefused(String what, Supplier<FranchiseLedger> state, String want, Call call) {
        FranchiseLedger asked = state.get();
        Check.due(what, want, Check.answer(() -> call.on(asked)));
        String before = UNTOUCHED.computeIfAbsent(state, Sights::everything);
        Check.due(what + " changes nothing", before, Sights.everything(() -> {
            FranchiseLedger x = state.get();
            Check.answer(() -> call.on(x));
            return x;
        }));
    }

    static void dueRefused(String what, Supplier<FranchiseLedger> state, int want, Call call) {
        dueRefused(what, state, String.valueOf(want), call);
    }

    /** The call has to answer false and to change nothing at all. */
    static void dueFalse(String what, Supplier<FranchiseLedger> state, Question call) {
        dueRefused(what, state, "0", x -> Check.asLong(call.on(x)));
    }

    /** The index is one of a franchisee: the others are refused, the first and the last are not. */
    static void dueFranchisees(String what, Indexed call) {
        dueIndexes(what, 5, 8, call);
    }

    static void dueOutlets(String what, Indexed call) {
        dueIndexes(what, 5, 16, call);
    }

    static void duePlans(String what, Indexed call) {
        dueIndexes(what, 2, 4, call);
    }

    /** By how many there are in the busy ledger and in the full one. */
    private static void dueIndexes(String what, int busy, int full, Indexed call) {
        for (int index : new int[] {-1, busy, full - 1, full, Integer.MIN_VALUE, Integer.MAX_VALUE}) {
            dueRefused(what + " of " + index, BUSY, Check.IOOBE, x -> call.on(x, index));
        }
        dueRefused(what + " in an empty ledger", EMPTY, Check.IOOBE, x -> call.on(x, 0));
        dueRefused(what + " in a full ledger", FULL, Check.IOOBE, x -> call.on(x, full));
        dueRefused(what + " in a full ledger", FULL, Check.IOOBE, x -> call.on(x, -1));
        dueIndexAllowed(what, BUSY.get(), 0, call);
        dueIndexAllowed(what, BUSY.get(), busy - 1, call);
        dueIndexAllowed(what, FULL.get(), full - 1, call);
    }

    private static void dueIndexAllowed(String what, FranchiseLedger x, int index, Indexed call) {
        boolean refused = Check.answer(() -> call.on(x, index)).equals(Check.IOOBE);
        Check.due(what + " of " + index + " is refused", false, refused);
    }

    /** Three members vote alike on a requested transfer. */
    static void decide(FranchiseLedger x, int franchisee, boolean yes) {
        for (int member = 0; member < 3; member++) {
            x.vote(franchisee, member, yes);
        }
    }

    /**
     * Month 4. Ann is active, owes much and is overdue; bob is active and has a requested transfer with two yes and a no;
     * cy is terminated, di the company's, and ed is active without cells. There are sales and deliveries, the fund is in
     * use, both slots are, four entries are left, a text is formatted, the last load had an error and there is input.
     */
    private static FranchiseLedger busy() {
        FranchiseLedger x = Check.ledger(SYSTEM);
        x.reportSales(0, 400000);
        x.reportSales(2, 300000);
        x.reportSales(3, 200000);
        x.reportSales(4, 100000);
        x.closeMonth();
        x.pay(BOB, 1000000);
        x.pay(DI, 1000000);
        for (int i = 0; i < 3; i++) {
            x.closeMonth();
        }
        x.saveSnapshot(0);
        x.terminate(CY);
        x.requestTransfer(DI, 40, 700);
        x.exercise(DI);
        x.campaign(1000);
        x.grant(ANN, 500);
        x.requestTransfer(BOB, 33, 900);
        x.vote(BOB, 0, true);
        x.vote(BOB, 1, false);
        x.saveSnapshot(1);
        x.vote(BOB, 2, true);
        x.reportSales(1, 5000);
        x.deliver(0, 7, 0, 3000);
        x.deliver(2, 0, 0, 2000);
        x.formatInvoice(ANN, 0);
        Check.loadJournal(x, "sales 0 70;pay bob 3;vote bob 3 yes;deliver 2 0 0 5;close;");
        x.runJournal(1);
        Check.load(x, "fee x");
        Check.put(x, "interest 7;plan 9");
        return x;
    }

    /** As many plans, franchisees and outlets as there can be; franchisee a has them all, the others have nothing. */
    private static FranchiseLedger full() {
        return Check.ledger(fullText());
    }

    static String fullText() {
        StringBuilder text = new StringBuilder("plan 0 1;plan 0 2;plan 0 3;plan 0 4;");
        for (char name = 'a'; name <= 'h'; name++) {
            text.append("franchisee ").append(name).append(" 3 ").append(name - 'a').append(';');
        }
        text.append("area a 0 0 30 1;");
        for (int i = 0; i < 16; i++) {
            text.append("outlet a ").append(i).append(" 0;");
        }
        return text.toString();
    }

    /** Eight franchisees, each with three columns of two rows, and an outlet in the first of their cells. */
    static String eightText() {
        StringBuilder text = new StringBuilder("plan 500 1000;plan 400 900 5 2000;");
        for (int i = 0; i < 8; i++) {
            String name = String.valueOf((char) ('a' + i));
            text.append("franchisee ").append(name).append(" 0 ").append(50 + i).append(';');
            text.append("area ").append(name).append(' ').append(3 * i).append(" 0 ").append(3 * i + 3).append(" 2;");
            text.append("outlet ").append(name).append(' ').append(3 * i).append(" 0;");
        }
        return text.append("credit 1000 50;interest 100;admin 1000;fee 10;delay 3;").toString();
    }

    /**
     * One of two courses of the eight. Both fill the same rows, and each fills them in its own way; at their ends there
     * are done, decided, exercised and open transfers, a terminated franchisee, and deliveries of all into all.
     */
    static void runCourse(FranchiseLedger x, int course) {
        x.openOutlet(course, 3 * course + 1, course - 1);
        x.cede(course, course + 1, 3 * course + 2, 0, 3 * course + 3, 2);
        x.setPlan(course, 1);
        for (int f = 0; f < 8; f++) {
            x.reportSales(f, 10000L * course * (f + 1));
        }
        x.closeMonth();
        for (int f = 0; f < 8; f++) {
            x.pay(f, f == 4 + course ? 1 : 1000000 + 10000 * course * f);
        }
        x.requestTransfer(2 - course, 30 + course, 100 * course);
        decide(x, 2 - course, true);
        x.requestTransfer(2, 35, 100);
        decide(x, 2, course == 1);
        for (int months = 0; months < 3 + course; months++) {
            x.reportSales(months, 5000 * course);
            x.closeMonth();
        }
        x.terminate(4 + course);
        x.requestTransfer(3, 40 + course, 500 * course);
        if (course == 1) {
            x.vote(3, 1, true);
            x.vote(3, 2, false);
        } else {
            x.vote(3, 0, false);
            x.vote(3, 3, false);
            x.vote(3, 4, true);
        }
        x.requestTransfer(7, 45, 600);
        if (course == 1) {
            x.exercise(7);
        }
        x.campaign(10 * course);
        x.grant(0, 5 * course);
        for (int from = 0; from < 8; from++) {
            for (int to = 0; to < 8; to++) {
                x.deliver(from, 3 * to, 1, 10 * course * (from + 1) * (to + 2));
            }
        }
    }

    /** All months are closed. */
    private static FranchiseLedger over() {
        FranchiseLedger x = Check.ledger(SYSTEM);
        for (int i = 0; i < 60; i++) {
            x.reportSales(0, 1000 + i);
            x.closeMonth();
        }
        return x;
    }
}
