/** Promises 63 and 64: the text of an invoice. */
public final class FormatTest {
    private static final int NONE = FranchiseLedger.NONE;
    private static final String SYSTEM = "plan 200 500 10000 400 50000 300;plan 0 1000;franchisee ann 0 50;"
            + "franchisee bob 1 10;area ann 0 0 4 4;area bob 4 0 8 4;outlet ann 1 1;outlet bob 5 2;credit 1000 50;"
            + "interest 100;admin 1500;";

    public static void main(String[] args) {
        texts();
        greatAmounts();
        bytes();
        wrongArguments();
        Check.end();
    }

    private static String text(FranchiseLedger x, int franchisee, int month) {
        int length = x.formatInvoice(franchisee, month);
        StringBuilder text = new StringBuilder();
        for (int i = 0; i < length; i++) {
            text.append((char) x.formattedByte(i));
        }
        Check.due("a byte behind the text", NONE, x.formattedByte(length));
        return text.toString();
    }

    private static void texts() {
        FranchiseLedger x = Check.ledger(SYSTEM);
        x.reportSales(0, 1520000);
        x.deliver(0, 5, 0, 50);
        x.deliver(1, 0, 0, 1000);
        x.closeMonth();
        Check.due("the first invoice",
                "royalty 708.02 ad 304.01 interest 0.00 paid 0.05 received 1.00 due 1011.08 balance 1011.08", text(x, 0, 0));
        Check.due("of the other",
                "royalty 1.00 ad 0.00 interest 0.00 paid 1.00 received 0.05 due 1.95 balance 1.95", text(x, 1, 0));
        x.pay(1, 200);
        x.deliver(0, 4, 0, 10);
        x.closeMonth();
        Check.due("less than a dollar below 0",
                "royalty 0.00 ad 0.00 interest 0.00 paid 0.00 received 0.01 due -0.01 balance -0.06", text(x, 1, 1));
        Check.due("interest", "royalty 0.01 ad 0.00 interest 10.11 paid 0.01 received 0.00 due 10.13 balance 1021.21",
                text(x, 0, 1));
        x.pay(1, 123456);
        x.closeMonth();
        Check.due("more than a dollar below 0",
                "royalty 0.00 ad 0.00 interest 0.00 paid 0.00 received 0.00 due 0.00 balance -1234.62", text(x, 1, 2));
        Check.due("an earlier month stays",
                "royalty 1.00 ad 0.00 interest 0.00 paid 1.00 received 0.05 due 1.95 balance 1.95", text(x, 1, 0));
    }

    private static void greatAmounts() {
        FranchiseLedger x = Check.ledger(SYSTEM);
        for (int i = 0; i < 300; i++) {
            x.pay(0, 1000000000L);
        }
        x.reportSales(1, 10000000);
        x.closeMonth();
        Check.due("300 payments", "royalty 0.00 ad 0.00 interest 0.00 paid 0.00 received 0.00 due 0.00 "
                + "balance -3000000000.00", text(x, 0, 0));
        Check.due("great sales", "royalty 10000.00 ad 0.00 interest 0.00 paid 0.00 received 0.00 due 10000.00 "
                + "balance 10000.00", text(x, 1, 0));
    }

    private static void bytes() {
        FranchiseLedger x = Check.ledger(SYSTEM);
        Check.due("nothing has been formatted", NONE, x.formattedByte(0));
        x.closeMonth();
        int length = x.formatInvoice(0, 0);
        Check.due("length", 80, length);
        Check.due("the first byte", 'r', x.formattedByte(0));
        Check.due("a space", 32, x.formattedByte(7));
        Check.due("the last byte", '0', x.formattedByte(79));
        for (int index : new int[] {-1, 80, 255, 256, Integer.MIN_VALUE, Integer.MAX_VALUE}) {
            Check.due("out of range", NONE, x.formattedByte(index));
        }
        Check.dueThrow("an invoice that there is not", Check.IAE, () -> x.formatInvoice(0, 1));
        Check.due("leaves the text", 'r', x.formattedByte(0));
        x.reportSales(0, 1000000);
        x.closeMonth();
        x.formatInvoice(0, 1);
        Check.due("a longer text", '5', x.formattedByte(8));
        x.formatInvoice(0, 0);
        Check.due("a shorter text replaces it", NONE, x.formattedByte(80));
    }

    private static void wrongArguments() {
        FranchiseLedger x = Check.ledger(SYSTEM);
        x.closeMonth();
        for (int month : new int[] {-1, 1, 60, Integer.MIN_VALUE, Integer.MAX_VALUE}) {
            Check.dueThrow("no closed month", Check.IAE, () -> x.formatInvoice(0, month));
            Check.dueThrow("the index first", Check.IOOBE, () -> x.formatInvoice(2, month));
        }
        for (int f : new int[] {-1, 2, 8, Integer.MIN_VALUE, Integer.MAX_VALUE}) {
            Check.dueThrow("no such franchisee", Check.IOOBE, () -> x.formatInvoice(f, 0));
        }
    }
}
