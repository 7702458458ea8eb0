import java.util.function.Supplier;

/** Promises 53 to 64: transfers, snapshots and the text of an invoice. */
final class TransferBoundaries {
    private static final int NONE = FranchiseLedger.NONE;
    private static final int NO_TRANSFER = FranchiseLedger.NO_TRANSFER;
    private static final int REQUESTED = FranchiseLedger.REQUESTED;
    private static final int APPROVED = FranchiseLedger.APPROVED;
    private static final int REJECTED = FranchiseLedger.REJECTED;
    private static final int DONE = FranchiseLedger.DONE;
    private static final int EXERCISED = FranchiseLedger.EXERCISED;
    private static final String INDEX = "- `franchisee`: index of a franchisee";
    private static final String NO_FRANCHISEE = "Throws `IndexOutOfBoundsException` if there is no such franchisee";
    private static final String TWO = "plan 0 1000;franchisee a 0 50;franchisee b 0 60;area a 0 0 2 1;area b 2 0 3 1;"
            + "outlet a 0 0;outlet b 2 0;fee 2;worth 20;";

    private TransferBoundaries() {
    }

    static void test() {
        Sentences.test(53, TransferBoundaries::requesting, "Requests a transfer to a buyer. Its state becomes REQUESTED, and no "
                + "member has voted.", INDEX, "- `worth`: worth of the buyer, 0 to 999", "- `price`: 0 to 1000000000",
                NO_FRANCHISEE, "Throws `IllegalArgumentException` if worth or price is out of range");
        Sentences.test(53, TransferBoundaries::notRequesting, "Returns true; false if the franchisee is not ACTIVE, if its "
                + "transfer is open, if its balance is positive, or if worth is below the least worth of a buyer.");
        Sentences.test(54, TransferBoundaries::voting, "Votes on a requested transfer. With the third yes its state becomes "
                + "APPROVED, with the third no REJECTED.", INDEX, "- `member`: 0 to 4", "- `yes`: true for yes, false for no",
                NO_FRANCHISEE, "Throws `IllegalArgumentException` if member is out of range");
        Sentences.test(54, TransferBoundaries::notVoting, "Returns the state then; NONE if the transfer is not REQUESTED, or if "
                + "the member has voted on it.");
        Sentences.test(55, TransferBoundaries::exercising, "Exercises the right of first refusal: the status of the franchisee "
                + "becomes COMPANY, its balance decreases by the price, and the state of the transfer becomes EXERCISED. (Its "
                + "outlets and its territory stay.)", INDEX, NO_FRANCHISEE);
        Sentences.test(55, TransferBoundaries::notExercising, "Returns true; false if its transfer is not open, or was "
                + "requested delay months ago or more.");
        Sentences.test(56, TransferBoundaries::withdrawing, "Withdraws a transfer: its state becomes NO_TRANSFER.", INDEX,
                "Returns true; false if its transfer is not open.", NO_FRANCHISEE);
        Sentences.test(57, TransferBoundaries::states, "Returns the state of the transfer of a franchisee.", INDEX, "Returns "
                + "NO_TRANSFER, REQUESTED, APPROVED, REJECTED, DONE or EXERCISED.", NO_FRANCHISEE);
        Sentences.test(58, TransferBoundaries::waiting, "Returns how many months must still pass until the delay of an open "
                + "transfer is over.", INDEX, "Returns the number, 0 if it is over; NONE if the transfer is not open.",
                NO_FRANCHISEE);
        Sentences.test(59, TransferBoundaries::generations, "Returns the generation of a franchisee: how many of its transfers "
                + "have been done.", INDEX, "Returns the number.", NO_FRANCHISEE);
        Sentences.test(60, TransferBoundaries::worths, "Returns the worth of a franchisee.", INDEX, "Returns the worth.",
                NO_FRANCHISEE);
        Sentences.test(61, TransferBoundaries::saving, "Saves a snapshot of everything except the input buffer, the error, the "
                + "journal, the snapshots and the formatted text; it replaces an earlier one in the same slot.",
                "- `slot`: 0 or 1", "Returns true; false if slot is out of range.");
        Sentences.test(62, TransferBoundaries::restoring, "Restores a snapshot. The snapshot stays in its slot.",
                "- `slot`: 0 or 1", "Returns true; false if slot is out of range or has no snapshot.");
        Sentences.test(63, TransferBoundaries::formatting, "Formats the invoice of a franchisee for a closed month: \"royalty A "
                + "ad B interest C paid D received E due F balance G\", where the letters stand for the amounts in dollars "
                + "with two decimals (a minus sign first if the amount is negative; at least one digit before the point).",
                "Returns the number of bytes of the text.");
        Sentences.test(63, TransferBoundaries::notFormatting, INDEX, "- `month`: a closed month", NO_FRANCHISEE,
                "Throws `IllegalArgumentException` if month is negative or not closed");
        Sentences.test(64, TransferBoundaries::bytes, "Returns a byte of the text that was formatted last.",
                "- `index`: index into the text", "Returns the byte; NONE if index is out of range, or if nothing has been "
                + "formatted.");
    }

    private static FranchiseLedger delayed(int delay) {
        return Check.ledger(TWO + "delay " + delay + ";");
    }

    private static FranchiseLedger requested(int delay) {
        FranchiseLedger x = delayed(delay);
        Check.due("requestTransfer", true, x.requestTransfer(0, 33, 700));
        return x;
    }

    private static void requesting() {
        Ledgers.dueFranchisees("requestTransfer", (x, f) -> Check.asLong(x.requestTransfer(f, 999, 0)));
        for (int worth : new int[] {-1, 1000, Integer.MIN_VALUE, Integer.MAX_VALUE}) {
            Ledgers.dueRefused("worth " + worth, Ledgers.BUSY, Check.IAE,
                    x -> Check.asLong(x.requestTransfer(Ledgers.ED, worth, 0)));
            Ledgers.dueRefused("worth " + worth, Ledgers.BUSY, Check.IAE,
                    x -> Check.asLong(x.requestTransfer(Ledgers.CY, worth, 0)));
        }
        for (long price : new long[] {-1, 1000000001L, Long.MIN_VALUE, Long.MAX_VALUE, 1L << 32}) {
            Ledgers.dueRefused("price " + price, Ledgers.BUSY, Check.IAE,
                    x -> Check.asLong(x.requestTransfer(Ledgers.ED, 999, price)));
        }
        Check.due("the least worth and price of all", true, Ledgers.FULL.get().requestTransfer(7, 0, 0));
        FranchiseLedger x = delayed(1);
        Check.due("the greatest worth and price", true, x.requestTransfer(0, 999, 1000000000L));
        Check.due("its state", REQUESTED, x.transferState(0));
        Check.due("of the other", NO_TRANSFER, x.transferState(1));
        x.exercise(0);
        Check.due("the price", -1000000000L, x.balance(0));
        FranchiseLedger again = requested(1);
        again.vote(0, 0, true);
        again.vote(0, 1, true);
        again.withdraw(0);
        again.requestTransfer(0, 44, 0);
        Check.due("no member has voted", REQUESTED, again.vote(0, 0, true));
        Check.due("nor has another", REQUESTED, again.vote(0, 1, true));
        Check.due("so this is the third", APPROVED, again.vote(0, 2, true));
        Check.due("the wait of the new one", 1, again.transferWait(0));
        Check.due("in month 60", true, Ledgers.OVER.get().requestTransfer(Ledgers.BOB, 20, 0));
    }

    private static void notRequesting() {
        Ledgers.dueFalse("a terminated one", Ledgers.BUSY, x -> x.requestTransfer(Ledgers.CY, 999, 0));
        Ledgers.dueFalse("a company", Ledgers.BUSY, x -> x.requestTransfer(Ledgers.DI, 999, 0));
        Ledgers.dueFalse("an open transfer", Ledgers.BUSY, x -> x.requestTransfer(Ledgers.BOB, 999, 0));
        Ledgers.dueFalse("a positive balance", Ledgers.BUSY, x -> x.requestTransfer(Ledgers.ANN, 999, 0));
        Ledgers.dueFalse("below the least worth", Ledgers.BUSY, x -> x.requestTransfer(Ledgers.ED, 19, 0));
        Check.due("the least worth", true, Ledgers.BUSY.get().requestTransfer(Ledgers.ED, 20, 0));
        FranchiseLedger x = delayed(1);
        x.reportSales(0, 10);
        x.closeMonth();
        Check.due("a balance of 1 cent", false, x.requestTransfer(0, 20, 0));
        x.pay(0, 1);
        Check.due("a balance of 0", true, x.requestTransfer(0, 20, 0));
        x.pay(1, 1);
        Check.due("a negative balance", true, x.requestTransfer(1, 20, 0));
        Ledgers.decide(x, 1, true);
        Check.due("an approved one is open", false, x.requestTransfer(1, 20, 0));
        x.closeMonth();
        x.closeMonth();
        x.pay(1, 200);
        Check.due("a done one is not", true, x.requestTransfer(1, 20, 0));
        Ledgers.decide(x, 1, false);
        Check.due("a rejected one is not", true, x.requestTransfer(1, 20, 0));
        x.withdraw(1);
        Check.due("a withdrawn one is not", true, x.requestTransfer(1, 20, 0));
    }

    private static void voting() {
        Ledgers.dueFranchisees("vote", (x, f) -> x.vote(f, 0, true));
        for (int member : new int[] {-1, 5, 32, Integer.MIN_VALUE, Integer.MAX_VALUE}) {
            Ledgers.dueRefused("member " + member, Ledgers.BUSY, Check.IAE, x -> x.vote(Ledgers.BOB, member, true));
            Ledgers.dueRefused("member " + member, Ledgers.BUSY, Check.IAE, x -> x.vote(Ledgers.ANN, member, false));
        }
        // Every order of five votes: the third of a kind decides, and nothing does before.
        for (int votes = 0; votes < 32; votes++) {
            FranchiseLedger x = requested(1);
            int yes = 0;
            int no = 0;
            for (int member = 0; member < 5 && yes < 3 && no < 3; member++) {
                boolean vote = (votes >> member & 1) == 1;
                yes += vote ? 1 : 0;
                no += vote ? 0 : 1;
                int state = yes == 3 ? APPROVED : no == 3 ? REJECTED : REQUESTED;
                Check.due("the state then", state, x.vote(0, member, vote));
                Check.due("and its state", state, x.transferState(0));
            }
        }
        Check.due("another's transfer", NO_TRANSFER, requested(1).transferState(1));
    }

    private static void notVoting() {
        Ledgers.dueRefused("no transfer", Ledgers.BUSY, NONE, x -> x.vote(Ledgers.ANN, 0, true));
        Ledgers.dueRefused("an exercised one", Ledgers.BUSY, NONE, x -> x.vote(Ledgers.DI, 0, true));
        for (int member = 0; member < 3; member++) {
            int voter = member;
            Ledgers.dueRefused("a second yes", Ledgers.BUSY, NONE, x -> x.vote(Ledgers.BOB, voter, true));
            Ledgers.dueRefused("a second no", Ledgers.BUSY, NONE, x -> x.vote(Ledgers.BOB, voter, false));
        }
        Check.due("one that has not voted", APPROVED, Ledgers.BUSY.get().vote(Ledgers.BOB, 3, true));
        Check.due("nor this one", REQUESTED, Ledgers.BUSY.get().vote(Ledgers.BOB, 4, false));
        FranchiseLedger x = requested(1);
        Ledgers.decide(x, 0, true);
        Check.due("an approved one", NONE, x.vote(0, 4, false));
        x.closeMonth();
        x.closeMonth();
        Check.due("a done one", NONE, x.vote(0, 4, true));
        x.requestTransfer(1, 20, 0);
        Ledgers.decide(x, 1, false);
        Check.due("a rejected one", NONE, x.vote(1, 4, true));
        x.requestTransfer(1, 20, 0);
        x.withdraw(1);
        Check.due("a withdrawn one", NONE, x.vote(1, 4, true));
    }

    private static void exercising() {
        Ledgers.dueFranchisees("exercise", (x, f) -> Check.asLong(x.exercise(f)));
        FranchiseLedger x = requested(1);
        Check.due("exercise", true, x.exercise(0));
        Check.due("status", FranchiseLedger.COMPANY, x.status(0));
        Check.due("the price", -700, x.balance(0));
        Check.due("the state", EXERCISED, x.transferState(0));
        Check.due("its outlet", 0, x.outletOwner(0));
        Check.due("its territory", 2, x.area(0));
        Check.due("its worth", 50, x.worth(0));
        Check.due("the other", FranchiseLedger.ACTIVE, x.status(1));
        FranchiseLedger free = delayed(1);
        free.requestTransfer(0, 20, 0);
        Check.due("a price of 0", true, free.exercise(0));
        Check.due("the balance stays", 0, free.balance(0));
        FranchiseLedger approved = requested(1);
        Ledgers.decide(approved, 0, true);
        Check.due("an approved one", true, approved.exercise(0));
        approved.closeMonth();
        approved.closeMonth();
        Check.due("it is not done later", EXERCISED, approved.transferState(0));
        Check.due("nor is there a fee", -700, approved.balance(0));
    }

    private static void notExercising() {
        Ledgers.dueFalse("no transfer", Ledgers.BUSY, x -> x.exercise(Ledgers.ANN));
        Ledgers.dueFalse("of a terminated one", Ledgers.BUSY, x -> x.exercise(Ledgers.CY));
        Ledgers.dueFalse("an exercised one", Ledgers.BUSY, x -> x.exercise(Ledgers.DI));
        for (int delay = 0; delay <= 12; delay++) {
            for (int passed = Math.max(0, delay - 1); passed <= delay + 1; passed++) {
                FranchiseLedger x = delayed(delay);
                x.closeMonth();
                x.requestTransfer(0, 20, 5);
                for (int i = 0; i < passed; i++) {
                    x.closeMonth();
                }
                Check.due(passed + " months of " + delay, passed < delay, x.exercise(0));
                Check.due("the status then", passed < delay ? FranchiseLedger.COMPANY : FranchiseLedger.ACTIVE, x.status(0));
                Check.due("the balance then", passed < delay ? -5 : 0, x.balance(0));
                Check.due("the state then", passed < delay ? EXERCISED : REQUESTED, x.transferState(0));
            }
        }
        FranchiseLedger rejected = requested(5);
        Ledgers.decide(rejected, 0, false);
        Check.due("a rejected one", false, rejected.exercise(0));
        FranchiseLedger withdrawn = requested(5);
        withdrawn.withdraw(0);
        Check.due("a withdrawn one", false, withdrawn.exercise(0));
    }

    private static void withdrawing() {
        Ledgers.dueFranchisees("withdraw", (x, f) -> Check.asLong(x.withdraw(f)));
        Ledgers.dueFalse("no transfer", Ledgers.BUSY, x -> x.withdraw(Ledgers.ANN));
        Ledgers.dueFalse("of a terminated one", Ledgers.BUSY, x -> x.withdraw(Ledgers.CY));
        Ledgers.dueFalse("an exercised one", Ledgers.BUSY, x -> x.withdraw(Ledgers.DI));
        FranchiseLedger x = requested(1);
        Check.due("a requested one", true, x.withdraw(0));
        Check.due("no transfer then", NO_TRANSFER, x.transferState(0));
        Check.due("not twice", false, x.withdraw(0));
        x.requestTransfer(0, 20, 0);
        Ledgers.decide(x, 0, true);
        Check.due("an approved one", true, x.withdraw(0));
        Check.due("no transfer then", NO_TRANSFER, x.transferState(0));
        x.requestTransfer(0, 20, 0);
        Ledgers.decide(x, 0, false);
        Check.due("a rejected one", false, x.withdraw(0));
        Check.due("stays rejected", REJECTED, x.transferState(0));
        x.requestTransfer(0, 20, 0);
        Ledgers.decide(x, 0, true);
        x.closeMonth();
        x.closeMonth();
        Check.due("a done one", false, x.withdraw(0));
        Check.due("stays done", DONE, x.transferState(0));
    }

    private static void states() {
        Ledgers.dueFranchisees("transferState", FranchiseLedger::transferState);
        int[] states = {NO_TRANSFER, REQUESTED, NO_TRANSFER, EXERCISED, NO_TRANSFER};
        for (int f = 0; f < 5; f++) {
            Check.due("state of " + f, states[f], Ledgers.BUSY.get().transferState(f));
        }
        FranchiseLedger x = requested(0);
        Ledgers.decide(x, 0, true);
        Check.due("approved", APPROVED, x.transferState(0));
        x.closeMonth();
        Check.due("done", DONE, x.transferState(0));
        x.pay(0, 200);
        x.requestTransfer(0, 20, 0);
        Ledgers.decide(x, 0, false);
        Check.due("rejected", REJECTED, x.transferState(0));
    }

    private static void waiting() {
        Ledgers.dueFranchisees("transferWait", FranchiseLedger::transferWait);
        Ledgers.dueRefused("no transfer", Ledgers.BUSY, NONE, x -> x.transferWait(Ledgers.ANN));
        Ledgers.dueRefused("an exercised one", Ledgers.BUSY, NONE, x -> x.transferWait(Ledgers.DI));
        for (int delay = 0; delay <= 12; delay += 4) {
            FranchiseLedger x = delayed(delay);
            x.closeMonth();
            x.requestTransfer(0, 20, 0);
            for (int passed = 0; passed <= delay + 2; passed++) {
                Check.due(passed + " months of " + delay, Math.max(0, delay - passed), x.transferWait(0));
                x.closeMonth();
            }
        }
        FranchiseLedger x = requested(3);
        Ledgers.decide(x, 0, true);
        Check.due("an approved one", 3, x.transferWait(0));
        x.withdraw(0);
        Check.due("a withdrawn one", NONE, x.transferWait(0));
        x.requestTransfer(0, 20, 0);
        Ledgers.decide(x, 0, false);
        Check.due("a rejected one", NONE, x.transferWait(0));
        FranchiseLedger done = requested(0);
        Ledgers.decide(done, 0, true);
        Check.due("no delay", 0, done.transferWait(0));
        done.closeMonth();
        Check.due("a done one", NONE, done.transferWait(0));
    }

    private static void generations() {
        Ledgers.dueFranchisees("generation", FranchiseLedger::generation);
        FranchiseLedger x = delayed(0);
        for (int generation = 0; generation < 60; generation++) {
            Check.due("the generation", generation, x.generation(0));
            x.pay(0, 1000);
            x.requestTransfer(0, 20 + generation, 0);
            Ledgers.decide(x, 0, true);
            x.closeMonth();
        }
        Check.due("with every closing", 60, x.generation(0));
        Check.due("of the other", 0, x.generation(1));
        Check.due("an exercised one is not done", 0, Ledgers.BUSY.get().generation(Ledgers.DI));
    }

    private static void worths() {
        Ledgers.dueFranchisees("worth", FranchiseLedger::worth);
        int[] worths = {50, 60, 70, 80, 90};
        for (int f = 0; f < 5; f++) {
            Check.due("worth of " + f, worths[f], Ledgers.BUSY.get().worth(f));
        }
        FranchiseLedger x = requested(0);
        Check.due("requested", 50, x.worth(0));
        Ledgers.decide(x, 0, true);
        Check.due("approved", 50, x.worth(0));
        x.closeMonth();
        Check.due("done", 33, x.worth(0));
        FranchiseLedger least = Ledgers.FULL.get();
        least.requestTransfer(7, 0, 0);
        Ledgers.decide(least, 7, true);
        least.closeMonth();
        Check.due("a buyer without worth", 0, least.worth(7));
    }

    private static void saving() {
        for (int slot : new int[] {-1, 2, Integer.MIN_VALUE, Integer.MAX_VALUE}) {
            Ledgers.dueFalse("slot " + slot, Ledgers.BUSY, x -> x.saveSnapshot(slot));
            Ledgers.dueFalse("slot " + slot, Ledgers.EMPTY, x -> x.saveSnapshot(slot));
        }
        for (int slot = 0; slot < 2; slot++) {
            int used = slot;
            Check.due("slot " + slot, true, Ledgers.BUSY.get().saveSnapshot(slot));
            Check.due("slot " + slot + " of a new object", true, Ledgers.EMPTY.get().saveSnapshot(slot));
            Check.due("the one it replaces", Sights.now(Ledgers.BUSY.get()), Sights.now(savedAndChanged(used)));
            Check.due("not that of the other slot", otherSlot(Ledgers.BUSY, used), otherSlot(() -> {
                FranchiseLedger x = Ledgers.BUSY.get();
                x.saveSnapshot(used);
                return x;
            }, used));
        }
        dueSaved(0, 1);
        dueSaved(1, 0);
        notSaved();
    }

    /** Two courses from one beginning fill the same rows, so that what is not saved of the first one would show. */
    private static void dueSaved(int beginning, int end) {
        Supplier<FranchiseLedger> first = () -> {
            FranchiseLedger x = Check.ledger(Ledgers.eightText());
            x.saveSnapshot(beginning);
            Ledgers.runCourse(x, 1);
            x.saveSnapshot(end);
            return x;
        };
        FranchiseLedger second = Check.ledger(Ledgers.eightText());
        Ledgers.runCourse(second, 2);
        FranchiseLedger again = first.get();
        again.restoreSnapshot(beginning);
        Ledgers.runCourse(again, 2);
        Check.due("the second course", Sights.now(second), Sights.now(again));
        Check.due("the first course", Sights.business(first), Sights.business(() -> {
            FranchiseLedger x = first.get();
            x.restoreSnapshot(beginning);
            Ledgers.runCourse(x, 2);
            x.restoreSnapshot(end);
            return x;
        }));
    }

    private static FranchiseLedger savedAndChanged(int slot) {
        FranchiseLedger x = Ledgers.BUSY.get();
        x.saveSnapshot(slot);
        change(x);
        x.restoreSnapshot(slot);
        return x;
    }

    private static void change(FranchiseLedger x) {
        x.setPlan(Ledgers.ANN, 1);
        x.cede(Ledgers.ANN, Ledgers.BOB, 5, 0, 6, 4);
        x.openOutlet(Ledgers.ANN, 0, 0);
        x.reportSales(0, 1234);
        x.deliver(2, 0, 0, 99);
        x.vote(Ledgers.BOB, 3, true);
        x.campaign(77);
        x.grant(Ledgers.ANN, 78);
        x.closeMonth();
        x.terminate(Ledgers.ANN);
        x.exercise(Ledgers.BOB);
        x.pay(Ledgers.ED, 5);
    }

    private static String otherSlot(Supplier<FranchiseLedger> state, int slot) {
        FranchiseLedger x = state.get();
        Check.due("the other slot is in use", true, x.restoreSnapshot(1 - slot));
        return Sights.now(x);
    }

    private static void notSaved() {
        FranchiseLedger x = Ledgers.BUSY.get();
        x.saveSnapshot(0);
        Check.put(x, "other");
        x.restoreSnapshot(0);
        Check.due("the input buffer", 5, Sights.bufferLength(x));
        Check.loadJournal(x, "campaign 0;");
        x.restoreSnapshot(0);
        Check.due("the error", 2, x.errorCode());
        Check.due("its position", 9, x.errorPosition());
        x.runJournal(1);
        x.restoreSnapshot(0);
        Check.due("the journal", 3, x.count(3));
        x.formatInvoice(Ledgers.BOB, 0);
        String text = Sights.formatted(x);
        x.restoreSnapshot(0);
        Check.due("the formatted text", text, Sights.formatted(x));
        x.saveSnapshot(1);
        x.restoreSnapshot(0);
        x.pay(Ledgers.ED, 5);
        x.restoreSnapshot(1);
        Check.due("the snapshots", 0, x.balance(Ledgers.ED));
    }

    private static void restoring() {
        for (int slot : new int[] {-1, 2, Integer.MIN_VALUE, Integer.MAX_VALUE}) {
            Ledgers.dueFalse("slot " + slot, Ledgers.BUSY, x -> x.restoreSnapshot(slot));
        }
        for (int slot = 0; slot < 2; slot++) {
            int none = slot;
            Ledgers.dueFalse("no snapshot in slot " + slot, Ledgers.FULL, x -> x.restoreSnapshot(none));
            Ledgers.dueFalse("no snapshot in slot " + slot, Ledgers.EMPTY, x -> x.restoreSnapshot(none));
        }
        FranchiseLedger one = Ledgers.FULL.get();
        one.saveSnapshot(1);
        Check.due("slot 1 alone is in use", false, one.restoreSnapshot(0));
        Check.due("it is", true, one.restoreSnapshot(1));
        FranchiseLedger x = Ledgers.BUSY.get();
        x.restoreSnapshot(1);
        String first = Sights.now(x);
        change(x);
        Check.due("it stays in its slot", true, x.restoreSnapshot(1));
        Check.due("as it was", first, Sights.now(x));
        x.closeMonth();
        x.restoreSnapshot(1);
        Check.due("however often", first, Sights.now(x));
        x.restoreSnapshot(0);
        Check.due("the other slot", FranchiseLedger.ACTIVE, x.status(Ledgers.CY));
        Check.due("its votes are not the present ones", NONE, x.vote(Ledgers.BOB, 0, true));
        FranchiseLedger over = Ledgers.BUSY.get();
        while (over.month() < 60) {
            over.closeMonth();
        }
        Check.due("from month 60", true, over.restoreSnapshot(0));
        Check.due("back", 4, over.month());
        Check.dueThrow("a month that is closed no longer", Check.IAE, () -> over.salesOf(0, 4));
    }

    private static String text(FranchiseLedger x, int franchisee, int month) {
        int length = x.formatInvoice(franchisee, month);
        StringBuilder text = new StringBuilder();
        for (int i = 0; i < length; i++) {
            text.append((char) x.formattedByte(i));
        }
        Check.due("behind the text", NONE, x.formattedByte(length));
        return text.toString();
    }

    private static String balanceText(long payment) {
        FranchiseLedger x = Check.ledger("plan 0 0;franchisee a 0 0;");
        if (payment > 0) {
            x.pay(0, payment);
        }
        x.closeMonth();
        String text = text(x, 0, 0);
        return text.substring(text.lastIndexOf(' ') + 1);
    }

    private static void formatting() {
        FranchiseLedger x = Ledgers.BUSY.get();
        Check.due("ann", "royalty 790.00 ad 200.00 interest 0.00 paid 0.00 received 0.00 due 990.00 balance 990.00",
                text(x, Ledgers.ANN, 0));
        Check.due("its length", 88, x.formatInvoice(Ledgers.ANN, 0));
        Check.due("nothing but zeros", "royalty 0.00 ad 0.00 interest 0.00 paid 0.00 received 0.00 due 0.00 balance 0.00",
                text(x, Ledgers.ED, 0));
        x.closeMonth();
        Check.due("with credits", true, text(x, Ledgers.ANN, 4).contains(" paid 3.00 received 2.00 due "));
        Check.due("of another", "royalty 0.60 ad 0.20 interest 0.00 paid 2.00 received 3.00 due -0.20 balance "
                + "-" + dollars(-x.balance(Ledgers.BOB)), text(x, Ledgers.BOB, 4));
        long[] payments = {0, 1, 9, 10, 99, 100, 101, 999, 1000, 12345, 99999, 100000, 999999999, 1000000000};
        String[] texts = {"0.00", "-0.01", "-0.09", "-0.10", "-0.99", "-1.00", "-1.01", "-9.99", "-10.00", "-123.45",
            "-999.99", "-1000.00", "-9999999.99", "-10000000.00"};
        for (int i = 0; i < payments.length; i++) {
            Check.due("a payment of " + payments[i], texts[i], balanceText(payments[i]));
        }
        FranchiseLedger great = Check.ledger("plan 0 0;franchisee a 0 0;");
        for (int i = 0; i < 500; i++) {
            great.pay(0, 1000000000L);
        }
        great.closeMonth();
        Check.due("500 payments", true, text(great, 0, 0).endsWith(" balance -5000000000.00"));
    }

    private static String dollars(long cents) {
        return cents / 100 + "." + cents / 10 % 10 + cents % 10;
    }

    private static void notFormatting() {
        for (int f : new int[] {-1, 5, 8, Integer.MIN_VALUE, Integer.MAX_VALUE}) {
            Ledgers.dueRefused("formatInvoice of " + f, Ledgers.BUSY, Check.IOOBE, x -> x.formatInvoice(f, 0));
            Ledgers.dueRefused("formatInvoice of " + f, Ledgers.BUSY, Check.IOOBE, x -> x.formatInvoice(f, 4));
        }
        for (int month : new int[] {-1, 4, 5, 59, 60, Integer.MIN_VALUE, Integer.MAX_VALUE}) {
            Ledgers.dueRefused("formatInvoice of month " + month, Ledgers.BUSY, Check.IAE, x -> x.formatInvoice(0, month));
        }
        Ledgers.dueRefused("no month is closed", Ledgers.FULL, Check.IAE, x -> x.formatInvoice(0, 0));
        Ledgers.dueRefused("month 60", Ledgers.OVER, Check.IAE, x -> x.formatInvoice(0, 60));
        Ledgers.dueRefused("nobody in a new object", Ledgers.EMPTY, Check.IOOBE, x -> x.formatInvoice(0, 0));
        Check.due("the last closed month", true, Ledgers.BUSY.get().formatInvoice(Ledgers.ED, 3) == 80);
        Check.due("the last month of all", true, Ledgers.OVER.get().formatInvoice(Ledgers.ED, 59) == 80);
    }

    private static void bytes() {
        for (int index : new int[] {-1, 0, 1, 80, Integer.MIN_VALUE, Integer.MAX_VALUE}) {
            Ledgers.dueRefused("nothing is formatted", Ledgers.EMPTY, NONE, x -> x.formattedByte(index));
            Ledgers.dueRefused("nothing is formatted", Ledgers.OVER, NONE, x -> x.formattedByte(index));
        }
        for (int index : new int[] {-1, 88, 89, 255, 256, 1500, Integer.MIN_VALUE, Integer.MAX_VALUE}) {
            Ledgers.dueRefused("out of range", Ledgers.BUSY, NONE, x -> x.formattedByte(index));
        }
        FranchiseLedger x = Ledgers.BUSY.get();
        Check.due("the first byte", 'r', x.formattedByte(0));
        Check.due("the last byte", '0', x.formattedByte(87));
        Check.due("a space", ' ', x.formattedByte(7));
        Check.due("a point", '.', x.formattedByte(11));
        x.formatInvoice(Ledgers.ED, 0);
        Check.due("the text that was formatted last", '0', x.formattedByte(79));
        Check.due("is shorter", NONE, x.formattedByte(80));
        Check.dueThrow("a refused call", Check.IAE, () -> x.formatInvoice(Ledgers.ANN, 4));
        Check.due("leaves it", '0', x.formattedByte(79));
        Check.load(x, "");
        Check.due("so does a load, which formats nothing", '0', x.formattedByte(79));
        Check.due("behind it", NONE, x.formattedByte(80));
    }
}
