/** Every sentence of the document with checks of its own; a sentence without any fails, too. */
public final class BoundariesTest {

    private BoundariesTest() {
    }

    public static void main(String[] args) {
        TermBoundaries.all();
        CustomsBoundaries.all();
        GoodsBoundaries.all();
        ChamberMoneyBoundaries.all();
        QueryBoundaries.all();
        ReasonBoundaries.all();
        JournalUndoBoundaries.all();
        Sentences.end();
        Check.end();
    }
}
