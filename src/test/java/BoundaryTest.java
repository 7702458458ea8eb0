/** Every sentence of the document, with a test of its own on both sides of each boundary that it names. */
public final class BoundaryTest {
    public static void main(String[] args) {
        EntityBoundaries.test();
        ClosingBoundaries.test();
        TextBoundaries.test();
        ErrorBoundaries.test();
        InputBoundaries.test();
        GridBoundaries.test();
        SalesBoundaries.test();
        MoneyBoundaries.test();
        TransferBoundaries.test();
        Sentences.dueAllClaimed();
        Check.end();
    }
}
