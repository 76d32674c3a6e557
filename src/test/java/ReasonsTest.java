/** Promises 56 to 68: weights told by totals, and reasons. */
public final class ReasonsTest {

    private ReasonsTest() {
    }

    public static void main(String[] args) {
        weights();
        noSuchKind();
        noEntry();
        noEntryWithoutPlace();
        noWithdrawal();
        noExport();
        noMove();
        noDrawback();
        oneCrownOfDebt();
        wrongArguments();
        Check.end();
    }

    private static void openWithBrokenSeal(BondWarehouse w, int chamber) {
        w.lock(chamber);
        w.breakSeal(chamber);
        w.open(chamber);
    }

    /** One hundred crowns of debt, by goods of the kind 0 that are lost; they take a number. */
    private static void makeDebt(BondWarehouse w) {
        w.weigh(w.enter(0, 1, 1000, 4), 0);
    }

    private static void weights() {
        BondWarehouse w = new BondWarehouse();
        w.deposit(5000);
        w.enter(4, 500, 1000, 0);
        w.enter(4, 100, 200, 1);
        w.enter(1, 60, 100, 2);
        w.withdraw(0, 100);
        w.withdraw(1, 30);
        w.sendAbroad(0, 50);
        w.sendAbroad(1, 5);
        w.drawBack(0, 20);
        w.drawBack(1, 1);
        w.pass(10);
        // 350 * 20 / 1000 = 7 are allowed
        w.weigh(0, 340);
        w.split(0, 40);
        Check.promise(56);
        Check.is("entered", 600, () -> w.entered(4));
        Check.is("entered, another kind", 60, () -> w.entered(1));
        Check.promise(57);
        Check.is("withdrawn", 130, () -> w.withdrawn(4));
        Check.is("withdrawn, another kind", 0, () -> w.withdrawn(1));
        Check.promise(58);
        Check.is("sent abroad", 55, () -> w.sentAbroad(4));
        Check.promise(59);
        Check.is("wasted", 7, () -> w.wasted(4));
        Check.promise(60);
        Check.is("lost", 3, () -> w.lost(4));
        Check.promise(61);
        Check.is("drawn back", 21, () -> w.drawnBack(4));
        Check.is("drawn back, another kind", 0, () -> w.drawnBack(1));
        Check.promise(62);
        Check.is("stock", 405, () -> w.stockByEntries(4));
        Check.is("stock, another kind", 60, () -> w.stockByEntries(1));
        Check.is("stock, no kind", 0, () -> w.stockByEntries(0));
        Check.promise(63);
        Check.is("stock by totals", 405, () -> w.stockByTotals(4));
        Check.is("stock by totals, another kind", 60, () -> w.stockByTotals(1));
    }

    private static void noSuchKind() {
        BondWarehouse w = new BondWarehouse();
        for (int kind : new int[] {-1, 6, Integer.MIN_VALUE, Integer.MAX_VALUE}) {
            Check.promise(56);
            Check.refuses("entered", Check.ARGUMENT, () -> w.entered(kind));
            Check.promise(57);
            Check.refuses("withdrawn", Check.ARGUMENT, () -> w.withdrawn(kind));
            Check.promise(58);
            Check.refuses("sentAbroad", Check.ARGUMENT, () -> w.sentAbroad(kind));
            Check.promise(59);
            Check.refuses("wasted", Check.ARGUMENT, () -> w.wasted(kind));
            Check.promise(60);
            Check.refuses("lost", Check.ARGUMENT, () -> w.lost(kind));
            Check.promise(61);
            Check.refuses("drawnBack", Check.ARGUMENT, () -> w.drawnBack(kind));
            Check.promise(62);
            Check.refuses("stockByEntries", Check.ARGUMENT, () -> w.stockByEntries(kind));
            Check.promise(63);
            Check.refuses("stockByTotals", Check.ARGUMENT, () -> w.stockByTotals(kind));
            Check.promise(64);
            Check.refuses("whyNoEntry", Check.ARGUMENT, () -> w.whyNoEntry(kind, 1, 1, 0));
        }
    }

    private static void noEntry() {
        Check.promise(64);
        BondWarehouse w = new BondWarehouse();
        w.setBond(1000);
        Check.is("nothing is in the way", 0, () -> w.whyNoEntry(0, 1, 9999, 0));
        Check.is("the bond", 5, () -> w.whyNoEntry(1, 1, 9999, 0));
        w.enter(0, 999, 4000, 0);
        w.enter(0, 999, 1000, 0);
        Check.is("just the bond", 0, () -> w.whyNoEntry(0, 2, 5000, 0));
        Check.is("one crown over", 5, () -> w.whyNoEntry(0, 2, 5001, 0));
        Check.is("the room before the bond", 3, () -> w.whyNoEntry(0, 3, 9999, 0));
        Check.is("room elsewhere", 5, () -> w.whyNoEntry(0, 3, 9999, 1));
        w.lock(0);
        Check.is("the lock before the room", 2, () -> w.whyNoEntry(0, 3, 9999, 0));
        makeDebt(w);
        Check.is("the debt before the lock", 1, () -> w.whyNoEntry(0, 3, 9999, 0));
        Check.is("the debt", 1, () -> w.whyNoEntry(0, 1, 1, 1));
        w.deposit(100);
        Check.is("no debt", 0, () -> w.whyNoEntry(0, 1, 1, 1));
        w.pass(100);
        w.pass(100);
        w.pass(1);
        // the duties are 440 and 110 now
        Check.is("with overdue goods", 0, () -> w.whyNoEntry(0, 1, 4500, 1));
        Check.is("one crown over with them", 5, () -> w.whyNoEntry(0, 1, 4501, 1));
        w.setRateByValue(0, 20);
        Check.is("over already, even without duty", 5, () -> w.whyNoEntry(3, 1, 1, 1));
    }

    private static void noEntryWithoutPlace() {
        Check.promise(64);
        BondWarehouse w = new BondWarehouse();
        w.setBond(16);
        for (int i = 0; i < 16; i++) {
            Check.is("place", 0, () -> w.whyNoEntry(0, 1, 1, 1));
            w.enter(0, 1, 1, 1);
        }
        Check.is("16 are open, before the bond", 4, () -> w.whyNoEntry(0, 1, 1, 1));
        Check.is("the weight still has room", 4, () -> w.whyNoEntry(0, 999, 1, 1));
        w.merge(0, 1);
        Check.is("a place again", 0, () -> w.whyNoEntry(0, 1, 1, 1));
        for (int number = 2; number < 46; number++) {
            w.sendAbroad(number, 1);
            w.enter(0, 1, 1, 1);
        }
        Check.is("60 were made", 60, w::entriesMade);
        Check.is("15 are open", 15, w::entries);
        Check.is("no number", 4, () -> w.whyNoEntry(0, 1, 1, 1));
    }

    private static void noWithdrawal() {
        Check.promise(65);
        BondWarehouse w = new BondWarehouse();
        w.enter(0, 100, 1000, 0);
        Check.is("no money", 5, () -> w.whyNoWithdrawal(0, 1));
        Check.is("the weight before the money", 4, () -> w.whyNoWithdrawal(0, 101));
        w.deposit(50);
        Check.is("just enough", 0, () -> w.whyNoWithdrawal(0, 50));
        Check.is("too little", 5, () -> w.whyNoWithdrawal(0, 51));
        openWithBrokenSeal(w, 0);
        Check.is("the proof before the weight", 3, () -> w.whyNoWithdrawal(0, 101));
        w.lock(0);
        Check.is("the lock before the proof", 2, () -> w.whyNoWithdrawal(0, 101));
        makeDebt(w);
        Check.is("the debt before the lock", 1, () -> w.whyNoWithdrawal(0, 101));
        w.deposit(1000);
        w.open(0);
        w.weigh(0, 100);
        Check.is("nothing is in the way", 0, () -> w.whyNoWithdrawal(0, 100));
        w.pass(100);
        w.pass(100);
        w.pass(100);
        Check.is("overdue goods may leave", 0, () -> w.whyNoWithdrawal(0, 100));
    }

    private static void noExport() {
        Check.promise(66);
        BondWarehouse w = new BondWarehouse();
        w.enter(0, 100, 1000, 0);
        Check.is("without money", 0, () -> w.whyNoExport(0, 100));
        Check.is("the weight", 4, () -> w.whyNoExport(0, 101));
        w.pass(100);
        w.pass(100);
        Check.is("after 200 days", 0, () -> w.whyNoExport(0, 1));
        w.pass(1);
        Check.is("after 201 days", 5, () -> w.whyNoExport(0, 1));
        Check.is("the weight before the days", 4, () -> w.whyNoExport(0, 101));
        openWithBrokenSeal(w, 0);
        Check.is("the proof before the weight", 3, () -> w.whyNoExport(0, 101));
        w.lock(0);
        Check.is("the lock before the proof", 2, () -> w.whyNoExport(0, 101));
        makeDebt(w);
        Check.is("the debt before the lock", 1, () -> w.whyNoExport(0, 101));
    }

    private static void noMove() {
        Check.promise(67);
        BondWarehouse w = new BondWarehouse();
        w.enter(0, 999, 10, 0);
        w.enter(0, 999, 10, 1);
        w.enter(0, 3, 10, 1);
        Check.is("room", 0, () -> w.whyNoMove(0, 2));
        Check.is("no room", 5, () -> w.whyNoMove(0, 1));
        w.sendAbroad(2, 1);
        Check.is("just enough room", 0, () -> w.whyNoMove(0, 1));
        w.enter(0, 1, 1, 1);
        w.lock(1);
        Check.is("the other lock before the room", 4, () -> w.whyNoMove(0, 1));
        openWithBrokenSeal(w, 0);
        Check.is("the proof before the other lock", 3, () -> w.whyNoMove(0, 1));
        w.lock(0);
        Check.is("the lock before the proof", 2, () -> w.whyNoMove(0, 1));
        Check.is("it is there, before the lock", 1, () -> w.whyNoMove(0, 0));
        makeDebt(w);
        Check.is("it is there, before all", 1, () -> w.whyNoMove(1, 1));
        w.open(1);
        Check.is("debt does not matter", 0, () -> w.whyNoMove(1, 2));
    }

    private static void noDrawback() {
        Check.promise(68);
        BondWarehouse w = new BondWarehouse();
        w.deposit(50);
        w.enter(0, 100, 1000, 0);
        w.withdraw(0, 50);
        Check.is("nothing is in the way", 0, () -> w.whyNoDrawback(0, 50));
        Check.is("the weight", 3, () -> w.whyNoDrawback(0, 51));
        w.pass(60);
        Check.is("after 60 days", 0, () -> w.whyNoDrawback(0, 50));
        w.pass(1);
        Check.is("after 61 days", 2, () -> w.whyNoDrawback(0, 50));
        Check.is("the days before the weight", 2, () -> w.whyNoDrawback(0, 51));
        makeDebt(w);
        Check.is("the debt before the days", 1, () -> w.whyNoDrawback(0, 51));
        Check.is("one receipt only", 1, w::receipts);
    }

    private static void oneCrownOfDebt() {
        BondWarehouse w = new BondWarehouse();
        w.deposit(10);
        w.enter(0, 100, 100, 0);
        w.withdraw(0, 50);
        w.weigh(w.enter(0, 6, 60, 1), 0);
        Check.promise(49);
        Check.is("debt", 1, w::debt);
        Check.promise(64);
        Check.is("entry", 1, () -> w.whyNoEntry(0, 1, 1, 0));
        Check.promise(65);
        Check.is("withdrawal", 1, () -> w.whyNoWithdrawal(0, 1));
        Check.promise(66);
        Check.is("export", 1, () -> w.whyNoExport(0, 1));
        Check.promise(68);
        Check.is("drawback", 1, () -> w.whyNoDrawback(0, 1));
        w.deposit(1);
        Check.is("no drawback is in debt's way", 0, () -> w.whyNoDrawback(0, 1));
    }

    private static void wrongArguments() {
        BondWarehouse w = new BondWarehouse();
        w.deposit(50);
        w.enter(0, 100, 1000, 0);
        w.withdraw(0, 50);
        int saved = w.savedStates();
        Check.promise(64);
        int[][] wrong = {{0, 0, 1, 0}, {0, 1000, 1, 0}, {0, 1, 0, 0}, {0, 1, 10000, 0}, {0, 1, 1, -1}, {0, 1, 1, 5}};
        for (int[] a : wrong) {
            Check.refuses("whyNoEntry", Check.ARGUMENT, () -> w.whyNoEntry(a[0], a[1], a[2], a[3]));
        }
        Check.is("the most", 0, () -> w.whyNoEntry(5, 999, 9999, 4));
        Check.promise(65);
        Check.refuses("whyNoWithdrawal", Check.INDEX, () -> w.whyNoWithdrawal(1, 0));
        Check.refuses("whyNoWithdrawal", Check.ARGUMENT, () -> w.whyNoWithdrawal(0, 0));
        Check.refuses("whyNoWithdrawal", Check.ARGUMENT, () -> w.whyNoWithdrawal(0, 1000));
        Check.is("the most", 4, () -> w.whyNoWithdrawal(0, 999));
        Check.promise(66);
        Check.refuses("whyNoExport", Check.INDEX, () -> w.whyNoExport(1, 0));
        Check.refuses("whyNoExport", Check.ARGUMENT, () -> w.whyNoExport(0, 0));
        Check.refuses("whyNoExport", Check.ARGUMENT, () -> w.whyNoExport(0, 1000));
        Check.is("the most", 4, () -> w.whyNoExport(0, 999));
        Check.promise(67);
        Check.refuses("whyNoMove", Check.INDEX, () -> w.whyNoMove(1, 1));
        Check.refuses("whyNoMove", Check.INDEX, () -> w.whyNoMove(0, -1));
        Check.refuses("whyNoMove", Check.INDEX, () -> w.whyNoMove(0, 5));
        Check.promise(68);
        Check.refuses("whyNoDrawback", Check.INDEX, () -> w.whyNoDrawback(1, 0));
        Check.refuses("whyNoDrawback", Check.INDEX, () -> w.whyNoDrawback(-1, 1));
        Check.refuses("whyNoDrawback", Check.ARGUMENT, () -> w.whyNoDrawback(0, 0));
        Check.refuses("whyNoDrawback", Check.ARGUMENT, () -> w.whyNoDrawback(0, 1000));
        Check.is("the most", 3, () -> w.whyNoDrawback(0, 999));
        Check.is("reasons save nothing", saved, w::savedStates);
    }
}
