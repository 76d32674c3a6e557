/** Promises 1 to 9: a new object; goods come, go, and are handled. */
public final class GoodsTest {

    private GoodsTest() {
    }

    public static void main(String[] args) {
        newObject();
        entering();
        enteringRefused();
        limitsOfEntries();
        fullRows();
        withdrawing();
        withdrawingRefused();
        sendingAbroad();
        drawingBack();
        drawingBackRefused();
        moving();
        splitting();
        splittingRefused();
        merging();
        mergingRefused();
        weighing();
        weighingUnproved();
        debtOfCharges();
        Check.end();
    }

    private static void newObject() {
        Check.promise(1);
        BondWarehouse w = new BondWarehouse();
        Check.is("NONE", -1, () -> BondWarehouse.NONE);
        Check.is("day", 0, w::day);
        Check.is("entries", 0, w::entries);
        Check.is("entriesMade", 0, w::entriesMade);
        Check.is("isOpenEntry(0)", false, () -> w.isOpenEntry(0));
        Check.isDouble("meanDuty", 0.0, w::meanDuty);
        Check.is("receipts", 0, w::receipts);
        Check.is("bond", 5000, w::bond);
        Check.is("dutyAtStake", 0, w::dutyAtStake);
        Check.is("account", 0, w::account);
        Check.is("debt", 0, w::debt);
        Check.is("balance", 0, w::balance);
        Check.is("balanceByTotals", 0, w::balanceByTotals);
        Check.is("deposits", 0, w::deposits);
        Check.is("dutiesPaid", 0, w::dutiesPaid);
        Check.is("charges", 0, w::charges);
        Check.is("drawbacks", 0, w::drawbacks);
        Check.is("nextOverdue", -1, w::nextOverdue);
        Check.is("dearestEntry", -1, w::dearestEntry);
        Check.is("firstError", 0, w::firstError);
        Check.is("savedStates", 0, w::savedStates);
        int[] byValue = {10, 20, 5, 0, 30, 15};
        int[] byWeight = {0, 10, 25, 40, 0, 5};
        for (int kind = 0; kind < 6; kind++) {
            int k = kind;
            Check.is("rateByValue " + k, byValue[k], () -> w.rateByValue(k));
            Check.is("rateByWeight " + k, byWeight[k], () -> w.rateByWeight(k));
            Check.is("entered " + k, 0, () -> w.entered(k));
            Check.is("withdrawn " + k, 0, () -> w.withdrawn(k));
            Check.is("sentAbroad " + k, 0, () -> w.sentAbroad(k));
            Check.is("wasted " + k, 0, () -> w.wasted(k));
            Check.is("lost " + k, 0, () -> w.lost(k));
            Check.is("drawnBack " + k, 0, () -> w.drawnBack(k));
            Check.is("stockByEntries " + k, 0, () -> w.stockByEntries(k));
            Check.is("stockByTotals " + k, 0, () -> w.stockByTotals(k));
            Check.is("cheapestEntry " + k, -1, () -> w.cheapestEntry(k));
        }
        for (int chamber = 0; chamber < 5; chamber++) {
            int c = chamber;
            Check.is("isLocked " + c, false, () -> w.isLocked(c));
            Check.is("sealOf " + c, -1, () -> w.sealOf(c));
            Check.is("isSealBroken " + c, false, () -> w.isSealBroken(c));
            Check.is("entriesIn " + c, 0, () -> w.entriesIn(c));
            Check.is("roomIn " + c, 2000, () -> w.roomIn(c));
        }
    }

    private static void entering() {
        Check.promise(2);
        BondWarehouse w = new BondWarehouse();
        w.pass(15);
        Check.is("the first", 0, () -> w.enter(0, 1, 1, 0));
        Check.is("the second", 1, () -> w.enter(5, 999, 9999, 4));
        Check.is("kind", 5, () -> w.kindOf(1));
        Check.is("weight", 999, () -> w.weightOf(1));
        Check.is("value", 9999, () -> w.valueOf(1));
        Check.is("chamber", 4, () -> w.chamberOf(1));
        Check.is("age", 0, () -> w.ageOf(1));
        Check.is("proved", true, () -> w.isProved(1));
        Check.is("entered 5", 999, () -> w.entered(5));
        Check.is("entered 0", 1, () -> w.entered(0));
        Check.is("entries", 2, w::entries);
        Check.is("saved", 3, w::savedStates);
        w.sendAbroad(0, 1);
        Check.is("numbers are not used again", 2, () -> w.enter(0, 1, 1, 0));
        int late = w.enter(4, 500, 10, 1);
        w.pass(10);
        Check.is("weighed when it was entered", 10, () -> w.allowedWaste(late));
    }

    private static void enteringRefused() {
        Check.promise(2);
        BondWarehouse w = new BondWarehouse();
        int[][] wrong = {{-1, 1, 1, 0}, {6, 1, 1, 0}, {0, 0, 1, 0}, {0, -1, 1, 0}, {0, 1000, 1, 0}, {0, 1, 0, 0},
            {0, 1, 10000, 0}, {0, 1, 1, -1}, {0, 1, 1, 5}, {Integer.MIN_VALUE, 1, 1, 0},
            {0, Integer.MAX_VALUE, 1, 0}, {0, 1, Integer.MAX_VALUE, 0}, {0, 1, 1, Integer.MAX_VALUE}};
        for (int[] a : wrong) {
            Check.refuses("enter", Check.ARGUMENT, () -> w.enter(a[0], a[1], a[2], a[3]));
        }
        w.lock(0);
        Check.refuses("a locked chamber", Check.STATE, () -> w.enter(0, 1, 1, 0));
        Check.refuses("argument before state", Check.ARGUMENT, () -> w.enter(0, 0, 1, 0));
        Check.is("only the lock is saved", 1, w::savedStates);
        Check.is("nothing was made", 0, w::entriesMade);
        Check.is("nothing was entered", 0, () -> w.entered(0));
        w.setBond(100);
        Check.refuses("over the bond", Check.STATE, () -> w.enter(0, 1, 1001, 1));
        Check.is("just the bond", 0, () -> w.enter(0, 1, 1000, 1));
        Check.is("stake", 100, w::dutyAtStake);
    }

    private static void limitsOfEntries() {
        Check.promise(2);
        BondWarehouse w = new BondWarehouse();
        w.setBond(50000);
        w.enter(0, 999, 1, 3);
        w.enter(0, 999, 1, 3);
        Check.refuses("no room", Check.STATE, () -> w.enter(0, 3, 1, 3));
        Check.is("just enough room", 2, () -> w.enter(0, 2, 1, 3));
        Check.is("room", 0, () -> w.roomIn(3));
        for (int i = 3; i < 16; i++) {
            w.enter(0, 1, 1, 0);
        }
        Check.is("16 are open", 16, w::entries);
        Check.refuses("the seventeenth", Check.STATE, () -> w.enter(0, 1, 1, 0));
        for (int number = 3; number < 47; number++) {
            w.sendAbroad(number, 1);
            w.enter(0, 1, 1, 0);
        }
        Check.is("60 were made", 60, w::entriesMade);
        Check.is("the last number", true, () -> w.isOpenEntry(59));
        w.sendAbroad(59, 1);
        Check.refuses("the sixty-first", Check.STATE, () -> w.enter(0, 1, 1, 0));
    }

    /** With 16 entries, six saved states and twelve receipts, no call steps over the end of a row. */
    private static void fullRows() {
        Check.promise(2);
        BondWarehouse w = new BondWarehouse();
        w.deposit(9999);
        for (int i = 0; i < 17; i++) {
            w.enter(0, 100 - i, 1000, i / 4);
            w.withdraw(i == 16 ? 15 : i, i == 0 ? 100 : 1);
        }
        Check.is("entries", 16, w::entries);
        Check.is("receipts", 12, w::receipts);
        Check.promise(22);
        Check.is("the last", 16, () -> w.entryAt(15));
        Check.promise(47);
        Check.is("stake", 14 * 99 + 98 + 100, w::dutyAtStake);
        Check.promise(73);
        Check.is("next", 1, w::nextOverdue);
        Check.promise(74);
        Check.is("cheapest", 1, () -> w.cheapestEntry(0));
        Check.promise(75);
        Check.is("all", w.dutyAtStake(), () -> w.dutyFromCheapest(0, w.stockByEntries(0)));
        Check.promise(76);
        Check.is("dearest", 16, w::dearestEntry);
        Check.promise(37);
        Check.is("in the last chamber", 1, () -> w.entriesIn(4));
        Check.promise(17);
        w.pass(100);
        w.pass(100);
        Check.is("all are overdue", 16, () -> w.pass(1));
        w.lock(4);
        w.breakSeal(4);
        Check.promise(11);
        Check.is("one is not proved", 1, () -> w.open(4));
        Check.promise(21);
        Check.is("no such", false, () -> w.isOpenEntry(17));
        String before = Told.of(w);
        w.weigh(16, 0);
        w.undo();
        Check.promise(81);
        Check.compare("undone", before, Told.of(w));
    }

    private static void withdrawing() {
        Check.promise(3);
        BondWarehouse w = new BondWarehouse();
        w.deposit(1000);
        w.enter(1, 100, 1001, 2);
        w.pass(5);
        // share 1001 * 33 / 100 = 330, its duty 66, and 33 * 10 / 100 rounded up
        Check.is("a part", 70, () -> w.withdraw(0, 33));
        Check.is("weight", 67, () -> w.weightOf(0));
        Check.is("value", 671, () -> w.valueOf(0));
        Check.is("account", 930, w::account);
        Check.is("duties", 70, w::dutiesPaid);
        Check.is("withdrawn", 33, () -> w.withdrawn(1));
        Check.is("receipts", 1, w::receipts);
        Check.is("receipt's kind", 1, () -> w.receiptKind(0));
        Check.is("receipt's weight", 33, () -> w.receiptWeight(0));
        Check.is("receipt's duty", 70, () -> w.receiptDuty(0));
        Check.is("receipt's age", 0, () -> w.receiptAge(0));
        Check.is("the whole", 142, () -> w.withdraw(0, 67));
        Check.is("closed", false, () -> w.isOpenEntry(0));
        Check.is("entries", 0, w::entries);
        Check.is("two receipts", 67, () -> w.receiptWeight(0));
        Check.is("the older one", 33, () -> w.receiptWeight(1));
        Check.is("saved", 5, w::savedStates);
        w.undo();
        Check.is("undone", 67, () -> w.weightOf(0));
        Check.is("account again", 930, w::account);
        Check.is("receipts again", 1, w::receipts);
    }

    private static void withdrawingRefused() {
        Check.promise(3);
        BondWarehouse w = new BondWarehouse();
        w.enter(0, 10, 1000, 0);
        Check.refuses("no entry", Check.INDEX, () -> w.withdraw(1, 1));
        Check.refuses("no entry, first", Check.INDEX, () -> w.withdraw(-1, 0));
        Check.refuses("no weight", Check.ARGUMENT, () -> w.withdraw(0, 0));
        Check.refuses("too much", Check.ARGUMENT, () -> w.withdraw(0, 1000));
        Check.refuses("more than it has", Check.STATE, () -> w.withdraw(0, 11));
        Check.refuses("no money", Check.STATE, () -> w.withdraw(0, 10));
        w.deposit(99);
        Check.refuses("too little money", Check.STATE, () -> w.withdraw(0, 10));
        w.deposit(1);
        Check.is("just enough", 100, () -> w.withdraw(0, 10));
        Check.is("nothing left", 0, w::account);
        Check.refuses("closed", Check.INDEX, () -> w.withdraw(0, 1));
        BondWarehouse v = new BondWarehouse();
        v.deposit(1000);
        v.enter(0, 10, 1000, 0);
        v.lock(0);
        Check.refuses("locked", Check.STATE, () -> v.withdraw(0, 1));
        v.breakSeal(0);
        v.open(0);
        Check.refuses("not proved", Check.STATE, () -> v.withdraw(0, 1));
        v.weigh(0, 10);
        Check.is("proved again", 10, () -> v.withdraw(0, 1));
        v.enter(3, 500, 1, 1);
        v.pass(100);
        v.pass(100);
        Check.is("not overdue at 200 days", 40, () -> v.withdraw(1, 100));
        v.pass(1);
        Check.is("overdue at 201", 44, () -> v.withdraw(1, 100));
    }

    private static void sendingAbroad() {
        Check.promise(4);
        BondWarehouse w = new BondWarehouse();
        w.enter(2, 100, 333, 0);
        Check.is("a part", 60, () -> w.sendAbroad(0, 40));
        // the share of the part was 133
        Check.is("value", 200, () -> w.valueOf(0));
        Check.is("abroad", 40, () -> w.sentAbroad(2));
        Check.is("no duty", 0, w::dutiesPaid);
        Check.is("no receipt", 0, w::receipts);
        Check.refuses("more than it has", Check.STATE, () -> w.sendAbroad(0, 61));
        Check.refuses("no weight", Check.ARGUMENT, () -> w.sendAbroad(0, 0));
        Check.refuses("too much", Check.ARGUMENT, () -> w.sendAbroad(0, 1000));
        Check.refuses("no entry", Check.INDEX, () -> w.sendAbroad(1, 0));
        Check.is("all but one", 1, () -> w.sendAbroad(0, 59));
        Check.is("it is open still", true, () -> w.isOpenEntry(0));
        Check.is("the whole", 0, () -> w.sendAbroad(0, 1));
        Check.is("closed", 0, w::entries);
        Check.is("abroad, all", 100, () -> w.sentAbroad(2));
        Check.is("saved", 4, w::savedStates);
        w.enter(0, 10, 10, 1);
        w.pass(100);
        w.pass(100);
        Check.is("not overdue", 9, () -> w.sendAbroad(1, 1));
        w.pass(1);
        Check.refuses("overdue", Check.STATE, () -> w.sendAbroad(1, 1));
        w.enter(0, 10, 10, 1);
        w.lock(1);
        Check.refuses("locked", Check.STATE, () -> w.sendAbroad(2, 1));
        w.breakSeal(1);
        w.open(1);
        Check.refuses("not proved", Check.STATE, () -> w.sendAbroad(2, 1));
    }

    private static void drawingBack() {
        Check.promise(5);
        BondWarehouse w = new BondWarehouse();
        w.deposit(2000);
        w.enter(0, 300, 3330, 0);
        w.enter(4, 100, 500, 0);
        w.withdraw(0, 300);
        w.withdraw(1, 100);
        Check.is("the latest one's duty", 150, () -> w.receiptDuty(0));
        // 333 * 7 / 300 = 7, nine tenths of it 6
        Check.is("paid back", 6, () -> w.drawBack(1, 7));
        Check.is("weight", 293, () -> w.receiptWeight(1));
        Check.is("duty", 326, () -> w.receiptDuty(1));
        Check.is("account", 2000 - 333 - 150 + 6, w::account);
        Check.is("drawbacks", 6, w::drawbacks);
        Check.is("drawn back", 7, () -> w.drawnBack(0));
        Check.is("not sent abroad", 0, () -> w.sentAbroad(0));
        Check.is("the rest", 293, () -> w.drawBack(1, 293));
        Check.is("it stays", 2, w::receipts);
        Check.is("without weight", 0, () -> w.receiptWeight(1));
        Check.is("without duty", 0, () -> w.receiptDuty(1));
        Check.refuses("nothing left", Check.STATE, () -> w.drawBack(1, 1));
        Check.is("drawn back, all", 300, () -> w.drawnBack(0));
        Check.is("sum", 299, w::drawbacks);
        Check.is("by totals", w.balance(), w::balanceByTotals);
    }

    private static void drawingBackRefused() {
        Check.promise(5);
        BondWarehouse w = new BondWarehouse();
        w.deposit(2000);
        w.enter(0, 100, 1000, 0);
        w.withdraw(0, 50);
        Check.refuses("no receipt", Check.INDEX, () -> w.drawBack(1, 1));
        Check.refuses("negative", Check.INDEX, () -> w.drawBack(-1, 0));
        Check.refuses("no weight", Check.ARGUMENT, () -> w.drawBack(0, 0));
        Check.refuses("too much", Check.ARGUMENT, () -> w.drawBack(0, 1000));
        Check.refuses("more than it has", Check.STATE, () -> w.drawBack(0, 51));
        w.pass(60);
        Check.is("after 60 days", 9, () -> w.drawBack(0, 10));
        w.pass(1);
        Check.refuses("after 61", Check.STATE, () -> w.drawBack(0, 10));
        Check.is("its duty", 40, () -> w.receiptDuty(0));
    }

    private static void moving() {
        Check.promise(6);
        BondWarehouse w = new BondWarehouse();
        w.enter(0, 999, 10, 0);
        w.enter(0, 999, 10, 1);
        w.enter(0, 999, 10, 1);
        w.enter(0, 3, 10, 0);
        Check.refuses("no room", Check.STATE, () -> w.move(3, 1));
        Check.is("into an empty one", 1997, () -> w.move(3, 4));
        Check.is("it is there", 4, () -> w.chamberOf(3));
        w.sendAbroad(3, 1);
        Check.is("just enough room", 0, () -> w.move(3, 1));
        Check.refuses("it is there already", Check.STATE, () -> w.move(3, 1));
        w.enter(0, 1, 1, 4);
        Check.is("into the first one", 1000, () -> w.move(4, 0));
        w.sendAbroad(4, 1);
        Check.refuses("no chamber", Check.INDEX, () -> w.move(3, 5));
        Check.refuses("no chamber below", Check.INDEX, () -> w.move(3, -1));
        Check.refuses("no entry", Check.INDEX, () -> w.move(4, 0));
        w.lock(2);
        Check.refuses("into a locked one", Check.STATE, () -> w.move(0, 2));
        w.lock(0);
        Check.refuses("out of a locked one", Check.STATE, () -> w.move(0, 3));
        w.breakSeal(0);
        w.open(0);
        Check.refuses("not proved", Check.STATE, () -> w.move(0, 3));
        w.weigh(0, 999);
        Check.is("proved", 1001, () -> w.move(0, 3));
        w.undo();
        Check.is("undone", 0, () -> w.chamberOf(0));
    }

    private static void splitting() {
        Check.promise(7);
        BondWarehouse w = new BondWarehouse();
        w.enter(2, 100, 999, 3);
        w.pass(30);
        w.weigh(0, 100);
        w.pass(25);
        Check.is("the new number", 1, () -> w.split(0, 33));
        // 999 * 33 / 100
        Check.is("its value", 329, () -> w.valueOf(1));
        Check.is("the other's value", 670, () -> w.valueOf(0));
        Check.is("its weight", 33, () -> w.weightOf(1));
        Check.is("the other's weight", 67, () -> w.weightOf(0));
        Check.is("its kind", 2, () -> w.kindOf(1));
        Check.is("its chamber", 3, () -> w.chamberOf(1));
        Check.is("its age", 55, () -> w.ageOf(1));
        Check.is("proved", true, () -> w.isProved(1));
        // 33 * 10 * (25 / 10) / 1000 = 0; after 100 days more 33 * 10 * 12 / 1000 = 3
        w.pass(100);
        Check.is("weighed as long ago", 3, () -> w.allowedWaste(1));
        Check.is("nothing is entered", 100, () -> w.entered(2));
        Check.is("room", 1900, () -> w.roomIn(3));
        w.lock(3);
        w.breakSeal(3);
        w.open(3);
        w.split(1, 32);
        Check.is("not proved, either", false, () -> w.isProved(2));
        Check.is("one kilogram left", 1, () -> w.weightOf(1));
        Check.is("made", 3, w::entriesMade);
    }

    private static void splittingRefused() {
        Check.promise(7);
        BondWarehouse w = new BondWarehouse();
        w.enter(0, 999, 9999, 0);
        Check.refuses("no entry", Check.INDEX, () -> w.split(1, 0));
        Check.refuses("no weight", Check.ARGUMENT, () -> w.split(0, 0));
        Check.refuses("the whole", Check.ARGUMENT, () -> w.split(0, 999));
        Check.refuses("below", Check.ARGUMENT, () -> w.split(0, -1));
        w.lock(0);
        Check.refuses("locked", Check.STATE, () -> w.split(0, 1));
        Check.refuses("argument before state", Check.ARGUMENT, () -> w.split(0, 999));
        w.open(0);
        Check.is("all but one", 1, () -> w.split(0, 998));
        for (int i = 2; i < 16; i++) {
            w.split(1, 2);
        }
        Check.refuses("16 are open", Check.STATE, () -> w.split(1, 2));
        for (int number = 2; number < 46; number++) {
            w.sendAbroad(number, 2);
            w.split(1, 2);
        }
        w.sendAbroad(46, 2);
        Check.is("15 are open", 15, w::entries);
        Check.is("60 were made", 60, w::entriesMade);
        Check.refuses("60 were made", Check.STATE, () -> w.split(1, 2));
    }

    private static void merging() {
        Check.promise(8);
        BondWarehouse w = new BondWarehouse();
        w.enter(2, 100, 999, 1);
        w.pass(50);
        w.enter(2, 200, 1, 1);
        w.pass(10);
        w.weigh(0, 100);
        w.pass(40);
        Check.is("the weight", 300, () -> w.merge(1, 0));
        Check.is("value", 1000, () -> w.valueOf(1));
        Check.is("the greater age", 100, () -> w.ageOf(1));
        // 40 days ago: 300 * 10 * 4 / 1000
        Check.is("weighed later", 12, () -> w.allowedWaste(1));
        Check.is("closed", false, () -> w.isOpenEntry(0));
        Check.is("entries", 1, w::entries);
        Check.is("rank", 1, () -> w.entryAt(0));
        w.undo();
        Check.is("undone", 100, () -> w.weightOf(0));
        Check.is("undone too", 50, () -> w.ageOf(1));
        Check.is("the other way", 300, () -> w.merge(0, 1));
        Check.is("the greater age, too", 100, () -> w.ageOf(0));
        Check.is("weighed later, too", 12, () -> w.allowedWaste(0));
        Check.is("nothing else is told", 300, () -> w.stockByTotals(2));
    }

    private static void mergingRefused() {
        Check.promise(8);
        BondWarehouse w = new BondWarehouse();
        w.enter(0, 500, 10, 0);
        w.enter(0, 500, 10, 0);
        w.enter(1, 1, 10, 0);
        w.enter(0, 1, 10, 1);
        Check.refuses("too heavy", Check.STATE, () -> w.merge(0, 1));
        Check.refuses("unlike kinds", Check.STATE, () -> w.merge(0, 2));
        Check.refuses("unlike chambers", Check.STATE, () -> w.merge(0, 3));
        Check.refuses("the same", Check.ARGUMENT, () -> w.merge(0, 0));
        Check.refuses("no such", Check.INDEX, () -> w.merge(0, 4));
        Check.refuses("no such, either", Check.INDEX, () -> w.merge(4, 0));
        Check.refuses("no such, and the same", Check.INDEX, () -> w.merge(4, 4));
        w.sendAbroad(1, 1);
        w.lock(0);
        Check.refuses("locked", Check.STATE, () -> w.merge(0, 1));
        w.breakSeal(0);
        w.open(0);
        Check.refuses("not proved", Check.STATE, () -> w.merge(0, 1));
        w.weigh(0, 500);
        Check.refuses("the merged one is not proved", Check.STATE, () -> w.merge(0, 1));
        Check.refuses("the one that stays is not proved", Check.STATE, () -> w.merge(1, 0));
        w.weigh(1, 499);
        Check.is("999 are allowed", 999, () -> w.merge(0, 1));
    }

    private static void weighing() {
        Check.promise(9);
        BondWarehouse w = new BondWarehouse();
        w.deposit(1000);
        w.enter(4, 500, 2000, 0);
        w.pass(39);
        // 500 * 20 * 3 / 1000 = 30 are allowed
        Check.is("all is waste", 0, () -> w.weigh(0, 470));
        Check.is("wasted", 30, () -> w.wasted(4));
        Check.is("lost", 0, () -> w.lost(4));
        Check.is("value", 1880, () -> w.valueOf(0));
        Check.is("weighed now", 0, () -> w.allowedWaste(0));
        w.pass(10);
        // 9 are allowed, 11 lost: 1880 * 11 / 470 = 44, its duty 14; 20 missing: 80
        Check.is("some is lost", 14, () -> w.weigh(0, 450));
        Check.is("wasted, too", 39, () -> w.wasted(4));
        Check.is("lost, too", 11, () -> w.lost(4));
        Check.is("value then", 1800, () -> w.valueOf(0));
        Check.is("account", 986, w::account);
        Check.is("charges", 14, w::charges);
        Check.is("nothing is missing", 0, () -> w.weigh(0, 450));
        Check.refuses("too much", Check.ARGUMENT, () -> w.weigh(0, 451));
        Check.refuses("below", Check.ARGUMENT, () -> w.weigh(0, -1));
        Check.refuses("no entry", Check.INDEX, () -> w.weigh(1, -1));
        w.lock(0);
        Check.refuses("locked", Check.STATE, () -> w.weigh(0, 450));
        Check.refuses("argument before state", Check.ARGUMENT, () -> w.weigh(0, 451));
        w.open(0);
        Check.is("all is lost", 540, () -> w.weigh(0, 0));
        Check.is("closed", false, () -> w.isOpenEntry(0));
        Check.is("stock", 0, () -> w.stockByTotals(4));
        w.enter(0, 10, 100, 0);
        w.pass(100);
        w.pass(100);
        Check.is("wine wastes, kind 0 does not", 10, () -> w.weigh(1, 0));
    }

    private static void weighingUnproved() {
        Check.promise(9);
        BondWarehouse w = new BondWarehouse();
        w.deposit(1000);
        w.enter(3, 10, 100, 0);
        w.lock(0);
        w.breakSeal(0);
        w.open(0);
        w.pass(100);
        w.pass(100);
        w.pass(1);
        // 5 * 40 / 100 = 2, a tenth of it rounded up 1, twice
        Check.is("twice, and overdue", 6, () -> w.weigh(0, 5));
        Check.is("proved", true, () -> w.isProved(0));
        Check.is("once then", 3, () -> w.weigh(0, 0));
    }

    private static void debtOfCharges() {
        Check.promise(9);
        BondWarehouse w = new BondWarehouse();
        w.deposit(60);
        w.enter(0, 100, 1000, 0);
        w.enter(0, 100, 1000, 0);
        Check.is("charge", 100, () -> w.weigh(0, 0));
        Check.is("account", 0, w::account);
        Check.is("debt", 40, w::debt);
        Check.is("balance", -40, w::balance);
        Check.is("by totals", -40, w::balanceByTotals);
        Check.is("more debt", 10, () -> w.weigh(1, 90));
        Check.is("debt then", 50, w::debt);
        Check.refuses("no entry with debt", Check.STATE, () -> w.enter(0, 1, 1, 0));
        Check.refuses("no export with debt", Check.STATE, () -> w.sendAbroad(1, 1));
        Check.is("moves go on", 1910, () -> w.move(1, 2));
        Check.is("and splits", 2, () -> w.split(1, 10));
        Check.is("and merges", 90, () -> w.merge(2, 1));
    }
}
