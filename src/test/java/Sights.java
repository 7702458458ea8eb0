import java.util.ArrayList;
import java.util.List;
import java.util.function.Supplier;

/** What can be seen of a ledger, at once or by what it does next, so that two ledgers can be compared. */
final class Sights {
    private static final int MONTHS_AHEAD = 5;

    private Sights() {
    }

    /** All that a ledger shows, what it would do next included; every look begins with a ledger of its own. */
    static String everything(Supplier<FranchiseLedger> state) {
        return business(state) + reading(state) + journal(state) + formatted(state.get());
    }

    /** The plans, territories, outlets, accounts, fund and transfers, and what is saved of them. */
    static String business(Supplier<FranchiseLedger> state) {
        StringBuilder text = new StringBuilder(now(state.get()));
        text.append("\nahead:").append(ahead(state.get()));
        FranchiseLedger prices = state.get();
        for (int f = 0; f < prices.count(1); f++) {
            prices.exercise(f);
        }
        text.append("\nexercised:").append(now(prices));
        for (int slot = 0; slot < 2; slot++) {
            FranchiseLedger saved = state.get();
            text.append("\nslot ").append(slot).append(saved.restoreSnapshot(slot)).append(now(saved));
            text.append("\nahead of it:").append(ahead(saved));
        }
        return text.toString();
    }

    /** The input buffer and the error. */
    static String reading(Supplier<FranchiseLedger> state) {
        FranchiseLedger x = state.get();
        StringBuilder text = new StringBuilder("\nerror ");
        text.append(x.errorCode()).append(" at ").append(x.errorPosition());
        int length = bufferLength(x);
        text.append(" buffer ").append(length);
        for (int cut = length; cut >= 0; cut--) {
            FranchiseLedger y = state.get();
            y.truncateInput(cut);
            text.append(' ').append(y.load()).append(' ').append(y.errorCode()).append(' ').append(y.errorPosition());
        }
        return text.toString();
    }

    /** The entries that are left, by what they do one after the other. */
    static String journal(Supplier<FranchiseLedger> state) {
        FranchiseLedger x = state.get();
        StringBuilder text = new StringBuilder("\njournal ");
        for (int left = x.count(3); left > 0; left--) {
            text.append(left).append(": ").append(x.runJournal(1)).append(now(x)).append('\n');
        }
        return text.toString();
    }

    static String formatted(FranchiseLedger x) {
        StringBuilder text = new StringBuilder("\nformatted ");
        for (int i = 0; x.formattedByte(i) != FranchiseLedger.NONE; i++) {
            text.append((char) x.formattedByte(i));
        }
        return text.toString();
    }

    /** A length that is shortened to itself leaves the buffer as it is. */
    static int bufferLength(FranchiseLedger x) {
        int length = 1500;
        while (x.truncateInput(length) == FranchiseLedger.NONE) {
            length--;
        }
        return length;
    }

    static String now(FranchiseLedger x) {
        List<Object> seen = new ArrayList<>();
        for (int i = 0; i < 4; i++) {
            seen.add(x.count(i));
        }
        seen.add(x.month());
        seen.add(x.fundBalance());
        seen.add(x.totalOwed());
        for (int kind = 0; kind < 3; kind++) {
            seen.add(x.spent(kind));
        }
        for (int cell = 0; cell < 900; cell++) {
            seen.add(x.owner(cell % 30, cell / 30));
        }
        for (int plan = 0; plan < x.count(0); plan++) {
            seen.add(x.royalty(plan, 100));
            seen.add(x.royalty(plan, 123456));
            seen.add(x.royalty(plan, 1000000000L));
        }
        for (int f = 0; f < x.count(1); f++) {
            seen.add("franchisee " + f);
            seen.addAll(franchisee(x, f));
        }
        for (int outlet = 0; outlet < x.count(2); outlet++) {
            seen.add("outlet " + x.outletOwner(outlet) + " " + x.outletCell(outlet) + " " + x.sales(outlet));
        }
        return seen.toString();
    }

    private static List<Object> franchisee(FranchiseLedger x, int f) {
        List<Object> seen = new ArrayList<>(List.of(x.ranked(f), x.planOf(f), x.worth(f), x.status(f), x.balance(f),
                x.generation(f), x.monthsOverdue(f)));
        seen.addAll(List.of(x.contributions(f), x.allowance(f), x.nationalShare(f), x.transferState(f), x.transferWait(f),
                x.predictDue(f, 100), x.cheapestPlan(f)));
        for (int other = 0; other < x.count(1); other++) {
            seen.add(x.creditDue(f, other));
        }
        for (int month = 0; month < x.month(); month++) {
            seen.add(x.salesOf(f, month));
            for (int part = 0; part < 7; part++) {
                seen.add(x.invoice(f, month, part));
            }
        }
        return seen;
    }

    /** Votes and closings show what is remembered of votes, buyers and deliveries. */
    private static String ahead(FranchiseLedger x) {
        StringBuilder text = new StringBuilder();
        for (int f = 0; f < x.count(1); f++) {
            for (int member = 0; member < 5; member++) {
                text.append(x.vote(f, member, true)).append(' ');
            }
        }
        for (int i = 0; i < MONTHS_AHEAD && x.month() < 60; i++) {
            x.closeMonth();
        }
        return text.append(now(x)).toString();
    }
}
