import java.util.function.Supplier;

/** Promises 64 to 76, sentence by sentence: reasons, what would be, and the cheapest way to take goods out. */
final class ReasonBoundaries {
    private static final Supplier<BondWarehouse> EMPTY = Fresh::empty;
    private static final Supplier<BondWarehouse> BUSY = Fresh::busy;
    private static final String FIRST = "otherwise the first reason that applies: ";
    private static final String NO_ENTRY = "Throws `IndexOutOfBoundsException` if there is no such entry";
    private static final String NO_RECEIPT = "Throws `IndexOutOfBoundsException` if not so many receipts are kept,"
            + " or receipt is negative";
    private static final String NO_WEIGHT = "Throws `IllegalArgumentException` if weight is out of range";

    private ReasonBoundaries() {
    }

    static void all() {
        whyNoEntry();
        whyNoEntryRefused();
        whyNoWithdrawal();
        whyNoExport();
        whyNoMove();
        whyNoDrawback();
        chargeIfWeighed();
        drawbackFor();
        dutyLater();
        daysToOverdue();
        nextOverdue();
        cheapestEntry();
        dutyFromCheapest();
        dutyFromCheapestRefused();
        dearestEntry();
    }

    private static Supplier<BondWarehouse> busyAfter(Fresh.Steps steps) {
        return () -> Fresh.busyAfter(steps);
    }

    private static Supplier<BondWarehouse> after(Fresh.Steps steps) {
        return () -> Fresh.after(steps);
    }

    private static void whyNoEntry() {
        Sentences.promise(64);
        Sentences.says("Tells why goods cannot be entered");
        Fresh.changesNothing("asking", BUSY, w -> w.whyNoEntry(0, 1, 1, 0));
        Fresh.changesNothing("asking in vain", BUSY, w -> w.whyNoEntry(0, 1, 1, 4));
        Sentences.says("Returns 0 if they can");
        Fresh.gives("the least", 0, EMPTY, w -> w.whyNoEntry(0, 1, 1, 0));
        Fresh.gives("the most", 0, EMPTY, w -> w.whyNoEntry(5, 999, 9999, 4));
        Sentences.says(FIRST + "1 there is debt");
        Fresh.gives("debt", 1, busyAfter(Fresh::makeDebt), w -> w.whyNoEntry(0, 1, 1, 0));
        Fresh.gives("one crown", 1, busyAfter(Fresh::makeDebt),
                w -> Fresh.last(w.deposit(9), w.whyNoEntry(0, 1, 1, 0)));
        Fresh.gives("paid", 0, busyAfter(Fresh::makeDebt), w -> Fresh.last(w.deposit(10), w.whyNoEntry(0, 1, 1, 0)));
        Fresh.gives("and locked", 1, busyAfter(Fresh::makeDebt), w -> w.whyNoEntry(0, 1, 1, 4));
        Fresh.gives("and over the bond", 1, busyAfter(Fresh::makeDebt),
                w -> Fresh.last(w.setBond(439), w.whyNoEntry(0, 1, 1, 0)));
        Sentences.says("2 the chamber is locked");
        Fresh.gives("locked", 2, BUSY, w -> w.whyNoEntry(0, 1, 1, 4));
        Fresh.gives("broken", 2, BUSY, w -> Fresh.last(w.breakSeal(4), w.whyNoEntry(0, 1, 1, 4)));
        Fresh.gives("opened", 0, BUSY, w -> Fresh.last(w.open(4), w.whyNoEntry(0, 1, 1, 4)));
        Supplier<BondWarehouse> heavy = after(w -> {
            w.enter(0, 999, 1, 4);
            w.enter(0, 999, 1, 4);
        });
        Fresh.gives("and no room", 2, heavy, w -> Fresh.last(w.lock(4), w.whyNoEntry(0, 3, 1, 4)));
        Sentences.says("3 there is not enough room in it");
        Fresh.gives("1 kg too much", 3, heavy, w -> w.whyNoEntry(0, 3, 1, 4));
        Fresh.gives("just enough", 0, heavy, w -> w.whyNoEntry(0, 2, 1, 4));
        Fresh.gives("none at all", 3, heavy, w -> Fresh.last(w.enter(0, 2, 1, 4), w.whyNoEntry(0, 1, 1, 4)));
        Fresh.gives("and 16 entries", 3, heavy, w -> Fresh.last(crowd(w, 14), w.whyNoEntry(0, 3, 1, 4)));
        Fresh.gives("and over the bond", 3, heavy, w -> Fresh.last(w.setBond(2), w.whyNoEntry(0, 3, 1, 4)));
        Sentences.says("4 there are 16 entries, or 60 were made");
        Fresh.gives("15 entries", 0, EMPTY, w -> Fresh.last(crowd(w, 15), w.whyNoEntry(0, 1, 1, 1)));
        Fresh.gives("16 entries", 4, EMPTY, w -> Fresh.last(crowd(w, 16), w.whyNoEntry(0, 1, 1, 1)));
        Fresh.gives("59 were made", 0, EMPTY, w -> Fresh.last(wear(w, 59), w.whyNoEntry(0, 1, 1, 1)));
        Fresh.gives("60 were made", 4, EMPTY, w -> Fresh.last(wear(w, 60), w.whyNoEntry(0, 1, 1, 1)));
        Fresh.gives("and over the bond", 4, EMPTY,
                w -> Fresh.last(crowd(w, 16), w.setBond(16), w.whyNoEntry(0, 1, 1, 1)));
        Sentences.says("5 the duty at stake would be greater than the bond");
        Fresh.gives("just the bond", 0, BUSY, w -> Fresh.last(w.setBond(439 + 12), w.whyNoEntry(1, 10, 55, 0)));
        Fresh.gives("one crown more by value", 5, BUSY,
                w -> Fresh.last(w.setBond(439 + 12), w.whyNoEntry(1, 10, 56, 0)));
        Fresh.gives("one crown more by weight", 5, BUSY,
                w -> Fresh.last(w.setBond(439 + 12), w.whyNoEntry(1, 11, 55, 0)));
        Supplier<BondWarehouse> late = busyAfter(w -> {
            Fresh.pass(w, 185);
            w.setBond(484);
        });
        Fresh.gives("with overdue goods", 5, late, w -> w.whyNoEntry(0, 1, 1, 0));
        Fresh.gives("new goods without duty", 0, late,
                w -> Fresh.last(w.setRateByWeight(3, 0), w.whyNoEntry(3, 1, 1, 0)));
        Fresh.gives("over the bond already", 5, late,
                w -> Fresh.last(w.setRateByWeight(3, 0), w.setRateByValue(0, 11), w.whyNoEntry(3, 1, 1, 0)));
    }

    private static int crowd(BondWarehouse w, int count) {
        for (int i = 0; i < count; i++) {
            w.enter(0, 1, 1, 0);
        }
        return 0;
    }

    /** Makes entries, and closes each again. */
    private static int wear(BondWarehouse w, int count) {
        for (int i = 0; i < count; i++) {
            w.sendAbroad(w.enter(0, 1, 1, 0), 1);
        }
        return 0;
    }

    private static void whyNoEntryRefused() {
        Sentences.says("`kind`: 0 to 5");
        Fresh.gives("5", 0, BUSY, w -> w.whyNoEntry(5, 1, 1, 0));
        Fresh.refusesEach("kind", Check.ARGUMENT, Fresh.NO_KINDS, BUSY, (w, kind) -> w.whyNoEntry(kind, 1, 1, 0));
        Sentences.says("`weight`: 1 to 999");
        Fresh.gives("999", 0, BUSY, w -> w.whyNoEntry(0, 999, 1, 0));
        Fresh.refusesEach("weight", Check.ARGUMENT, Fresh.outside(1, 999), BUSY, (w, kg) -> w.whyNoEntry(0, kg, 1, 0));
        Sentences.says("`value`: 1 to 9999");
        Fresh.gives("9999", 0, BUSY, w -> w.whyNoEntry(0, 1, 9999, 0));
        Fresh.refusesEach("value", Check.ARGUMENT, Fresh.outside(1, 9999), BUSY, (w, v) -> w.whyNoEntry(0, 1, v, 0));
        Sentences.says("`chamber`: 0 to 4");
        Fresh.gives("4", 2, BUSY, w -> w.whyNoEntry(0, 1, 1, 4));
        Fresh.refusesEach("chamber", Check.ARGUMENT, Fresh.NO_CHAMBERS, BUSY, (w, c) -> w.whyNoEntry(0, 1, 1, c));
        Sentences.says("Throws `IllegalArgumentException` if an argument is out of range");
        Fresh.refuses("all of them", Check.ARGUMENT, BUSY, w -> w.whyNoEntry(6, 1000, 10000, 5));
        Fresh.refuses("with debt", Check.ARGUMENT, busyAfter(Fresh::makeDebt), w -> w.whyNoEntry(0, 0, 1, 0));
    }

    private static void entryAndWeight(Fresh.Asking ofEntry, Fresh.Asking ofWeight, Fresh.Call ofNeither) {
        Sentences.says("`entry`: the number of the entry");
        Fresh.gives("entry 0", 0, BUSY, w -> ofEntry.on(w, 0));
        Fresh.gives("entry 4", 0, BUSY, w -> ofEntry.on(w, 4));
        Sentences.says("`weight`: 1 to 999");
        Fresh.gives("1", 0, BUSY, w -> ofWeight.on(w, 1));
        Fresh.gives("999", 4, BUSY, w -> ofWeight.on(w, 999));
        Sentences.says(NO_ENTRY);
        Fresh.refusesEach("entry", Check.INDEX, Fresh.NO_ENTRIES, BUSY, ofEntry);
        Fresh.refuses("and no weight", Check.INDEX, BUSY, ofNeither);
        Sentences.says(NO_WEIGHT);
        Fresh.refusesEach("weight", Check.ARGUMENT, Fresh.outside(1, 999), BUSY, ofWeight);
        Fresh.refusesEach("weight, with debt", Check.ARGUMENT, Fresh.outside(1, 999), busyAfter(Fresh::makeDebt),
                ofWeight);
    }

    /** What withdrawals and exports have in common; a weight of 60 can leave, and 61 cannot. */
    private static void leaving(Fresh.Asking made) {
        Sentences.says("Returns 0 if it can");
        Fresh.gives("1 kg", 0, BUSY, w -> made.on(w, 1));
        Fresh.gives("60 kg", 0, BUSY, w -> made.on(w, 60));
        Fresh.changesNothing("asking", BUSY, w -> made.on(w, 60));
        Sentences.says(FIRST + "1 there is debt");
        Fresh.gives("debt", 1, busyAfter(Fresh::makeDebt), w -> made.on(w, 1));
        Fresh.gives("one crown", 1, busyAfter(Fresh::makeDebt), w -> Fresh.last(w.deposit(9), made.on(w, 1)));
        Fresh.gives("paid", 0, busyAfter(Fresh::makeDebt), w -> Fresh.last(w.deposit(16), made.on(w, 1)));
        Fresh.gives("and locked", 1, busyAfter(Fresh::makeDebt), w -> Fresh.last(w.lock(0), made.on(w, 1)));
        Sentences.says("2 its chamber is locked");
        Fresh.gives("locked", 2, BUSY, w -> Fresh.last(w.lock(0), made.on(w, 1)));
        Fresh.gives("broken", 2, BUSY, w -> Fresh.last(w.lock(0), w.breakSeal(0), made.on(w, 1)));
        Fresh.gives("opened", 0, BUSY, w -> Fresh.last(w.lock(0), w.open(0), made.on(w, 1)));
        Fresh.gives("and not proved", 2, busyAfter(w -> Fresh.openBroken(w, 0)),
                w -> Fresh.last(w.lock(0), made.on(w, 1)));
        Sentences.says("3 it is not proved");
        Fresh.gives("not proved", 3, busyAfter(w -> Fresh.openBroken(w, 0)), w -> made.on(w, 1));
        Fresh.gives("and its weight is less", 3, busyAfter(w -> Fresh.openBroken(w, 0)), w -> made.on(w, 61));
        Fresh.gives("weighed", 0, busyAfter(w -> Fresh.openBroken(w, 0)),
                w -> Fresh.last(w.weigh(0, 60), made.on(w, 1)));
        Sentences.says("4 its weight is less");
        Fresh.gives("61 kg", 4, BUSY, w -> made.on(w, 61));
        Fresh.gives("999 kg", 4, BUSY, w -> made.on(w, 999));
    }

    private static void whyNoWithdrawal() {
        Sentences.promise(65);
        Sentences.says("Tells why a part of an entry cannot leave into the country");
        Fresh.gives("entry 4", 0, BUSY, w -> w.whyNoWithdrawal(4, 20));
        leaving((w, weight) -> w.whyNoWithdrawal(0, weight));
        Sentences.says("4 its weight is less");
        Supplier<BondWarehouse> poor = busyAfter(w -> w.withdraw(3, 290));
        Supplier<BondWarehouse> poorer = busyAfter(w -> {
            w.enter(0, 1, 4000, 2);
            w.weigh(5, 0);
        });
        Fresh.gives("and the account is less than the duty", 4, poorer, w -> w.whyNoWithdrawal(0, 61));
        Sentences.says("5 the account is less than the duty");
        // an account of 54 crowns is left, and one of 280
        Fresh.gives("one crown less", 5, poorer, w -> w.whyNoWithdrawal(0, 55));
        Fresh.gives("just as much", 0, poorer, w -> w.whyNoWithdrawal(0, 54));
        Fresh.gives("nothing is paid", 5, after(w -> w.enter(0, 1, 1, 0)), w -> w.whyNoWithdrawal(0, 1));
        Fresh.gives("nothing is due", 0, after(w -> w.enter(0, 999, 1, 0)), w -> w.whyNoWithdrawal(0, 998));
        Fresh.gives("enough for the whole", 0, poor, w -> w.whyNoWithdrawal(1, 200));
        Fresh.gives("not enough any more", 5, poor,
                w -> Fresh.last(w.setRateByValue(1, 29), w.whyNoWithdrawal(1, 200)));
        Fresh.gives("overdue", 0, poorer, w -> {
            Fresh.pass(w, 185);
            return w.whyNoWithdrawal(0, 49);
        });
        Fresh.gives("one crown less, overdue", 5, poorer, w -> {
            Fresh.pass(w, 185);
            return w.whyNoWithdrawal(0, 50);
        });
        entryAndWeight((w, entry) -> w.whyNoWithdrawal(entry, 1), (w, weight) -> w.whyNoWithdrawal(0, weight),
                w -> w.whyNoWithdrawal(2, 0));
    }

    private static void whyNoExport() {
        Sentences.promise(66);
        Sentences.says("Tells why a part of an entry cannot leave abroad");
        Fresh.gives("entry 4", 0, BUSY, w -> w.whyNoExport(4, 20));
        leaving((w, weight) -> w.whyNoExport(0, weight));
        Sentences.says("4 its weight is less");
        Fresh.gives("and it is overdue", 4, busyAfter(w -> Fresh.pass(w, 185)), w -> w.whyNoExport(0, 61));
        Sentences.says("5 it is overdue");
        Fresh.gives("200 days", 0, busyAfter(w -> Fresh.pass(w, 184)), w -> w.whyNoExport(0, 1));
        Fresh.gives("201 days", 5, busyAfter(w -> Fresh.pass(w, 185)), w -> w.whyNoExport(0, 1));
        Sentences.says("Returns 0 if it can");
        Fresh.gives("no money is needed", 0, after(w -> w.enter(0, 1, 9999, 0)), w -> w.whyNoExport(0, 1));
        entryAndWeight((w, entry) -> w.whyNoExport(entry, 1), (w, weight) -> w.whyNoExport(0, weight),
                w -> w.whyNoExport(2, 0));
    }

    private static void whyNoMove() {
        Sentences.promise(67);
        Sentences.says("Tells why an entry cannot be moved into a chamber");
        Fresh.changesNothing("asking", BUSY, w -> w.whyNoMove(0, 2));
        Sentences.says("Returns 0 if it can");
        Fresh.gives("into an empty one", 0, BUSY, w -> w.whyNoMove(0, 2));
        Fresh.gives("with debt", 0, busyAfter(Fresh::makeDebt), w -> w.whyNoMove(0, 1));
        Fresh.gives("overdue", 0, busyAfter(w -> Fresh.pass(w, 185)), w -> w.whyNoMove(0, 1));
        Sentences.says(FIRST + "1 it is in this chamber");
        Fresh.gives("there", 1, BUSY, w -> w.whyNoMove(0, 0));
        Fresh.gives("and locked", 1, BUSY, w -> Fresh.last(w.lock(0), w.whyNoMove(0, 0)));
        Sentences.says("2 its chamber is locked");
        Fresh.gives("locked", 2, BUSY, w -> Fresh.last(w.lock(0), w.whyNoMove(0, 2)));
        Fresh.gives("and not proved", 2, busyAfter(w -> Fresh.openBroken(w, 0)),
                w -> Fresh.last(w.lock(0), w.whyNoMove(0, 2)));
        Sentences.says("3 it is not proved");
        Fresh.gives("not proved", 3, busyAfter(w -> Fresh.openBroken(w, 0)), w -> w.whyNoMove(0, 2));
        Fresh.gives("and the other is locked", 3, busyAfter(w -> Fresh.openBroken(w, 0)), w -> w.whyNoMove(0, 4));
        Sentences.says("4 the other chamber is locked");
        Fresh.gives("locked", 4, BUSY, w -> w.whyNoMove(0, 4));
        Fresh.gives("broken", 4, BUSY, w -> Fresh.last(w.breakSeal(4), w.whyNoMove(0, 4)));
        Supplier<BondWarehouse> heavy = busyAfter(w -> {
            w.enter(3, 999, 1, 2);
            w.enter(3, 942, 1, 2);
        });
        Fresh.gives("and no room", 4, heavy, w -> Fresh.last(w.lock(2), w.whyNoMove(0, 2)));
        Sentences.says("5 there is not enough room in that");
        Fresh.gives("1 kg too much", 5, heavy, w -> w.whyNoMove(0, 2));
        Fresh.gives("just enough", 0, heavy, w -> Fresh.last(w.sendAbroad(0, 1), w.whyNoMove(0, 2)));
        Sentences.says("`entry`: the number of the entry");
        Fresh.gives("entry 4", 0, BUSY, w -> w.whyNoMove(4, 2));
        Sentences.says("`chamber`: 0 to 4");
        Fresh.gives("0", 0, BUSY, w -> w.whyNoMove(1, 0));
        Fresh.gives("4", 4, BUSY, w -> w.whyNoMove(1, 4));
        Sentences.says("Throws `IndexOutOfBoundsException` if there is no such entry or chamber");
        Fresh.refusesEach("entry", Check.INDEX, Fresh.NO_ENTRIES, BUSY, (w, entry) -> w.whyNoMove(entry, 2));
        Fresh.refusesEach("chamber", Check.INDEX, Fresh.NO_CHAMBERS, BUSY, (w, chamber) -> w.whyNoMove(0, chamber));
        Fresh.refuses("both", Check.INDEX, BUSY, w -> w.whyNoMove(2, 5));
    }

    private static void whyNoDrawback() {
        Sentences.promise(68);
        Sentences.says("Tells why nothing can be paid back for goods of a receipt");
        Fresh.changesNothing("asking", BUSY, w -> w.whyNoDrawback(1, 40));
        Sentences.says("Returns 0 if it can");
        Fresh.gives("1 kg", 0, BUSY, w -> w.whyNoDrawback(1, 1));
        Fresh.gives("40 kg", 0, BUSY, w -> w.whyNoDrawback(1, 40));
        Sentences.says(FIRST + "1 there is debt");
        Fresh.gives("debt", 1, busyAfter(Fresh::makeDebt), w -> w.whyNoDrawback(1, 1));
        Fresh.gives("one crown", 1, busyAfter(Fresh::makeDebt), w -> Fresh.last(w.deposit(9), w.whyNoDrawback(1, 1)));
        Fresh.gives("paid", 0, busyAfter(Fresh::makeDebt), w -> Fresh.last(w.deposit(10), w.whyNoDrawback(1, 1)));
        Fresh.gives("and too old", 1, busyAfter(Fresh::makeDebt), w -> Fresh.last(w.pass(45), w.whyNoDrawback(1, 1)));
        Sentences.says("2 the receipt was made more than 60 days ago");
        Fresh.gives("60 days", 0, BUSY, w -> Fresh.last(w.pass(44), w.whyNoDrawback(1, 1)));
        Fresh.gives("61 days", 2, BUSY, w -> Fresh.last(w.pass(45), w.whyNoDrawback(1, 1)));
        Fresh.gives("and its weight is less", 2, BUSY, w -> Fresh.last(w.pass(45), w.whyNoDrawback(1, 41)));
        Fresh.gives("46 days", 0, BUSY, w -> Fresh.last(w.pass(45), w.whyNoDrawback(0, 1)));
        Sentences.says("3 its weight is less");
        Fresh.gives("41 kg", 3, BUSY, w -> w.whyNoDrawback(1, 41));
        Fresh.gives("40 kg of 39", 3, BUSY, w -> Fresh.last(w.drawBack(1, 1), w.whyNoDrawback(1, 40)));
        Fresh.gives("39 kg of 39", 0, BUSY, w -> Fresh.last(w.drawBack(1, 1), w.whyNoDrawback(1, 39)));
        Fresh.gives("1 kg of 0", 3, BUSY, w -> Fresh.last(w.drawBack(1, 40), w.whyNoDrawback(1, 1)));
        Sentences.says("`receipt`: 0 for the latest receipt, and so on");
        Fresh.gives("the latest, of 10 kg", 3, BUSY, w -> w.whyNoDrawback(0, 11));
        Sentences.says("`weight`: 1 to 999");
        Fresh.gives("999", 3, BUSY, w -> w.whyNoDrawback(1, 999));
        Sentences.says(NO_RECEIPT);
        Fresh.refusesEach("receipt", Check.INDEX, Fresh.NO_RECEIPTS, BUSY, (w, receipt) -> w.whyNoDrawback(receipt, 1));
        Fresh.refuses("and no weight", Check.INDEX, BUSY, w -> w.whyNoDrawback(2, 0));
        Fresh.refuses("of none", Check.INDEX, EMPTY, w -> w.whyNoDrawback(0, 1));
        Sentences.says(NO_WEIGHT);
        Fresh.refusesEach("weight", Check.ARGUMENT, Fresh.outside(1, 999), BUSY, (w, kg) -> w.whyNoDrawback(1, kg));
        Fresh.refuses("with debt", Check.ARGUMENT, busyAfter(Fresh::makeDebt), w -> w.whyNoDrawback(1, 0));
    }

    private static void chargeIfWeighed() {
        Sentences.promise(69);
        Sentences.says("Tells what would be charged if an entry was weighed now"
                + " (whether its chamber is locked or not)");
        Fresh.gives("nothing is missing", 0, BUSY, w -> w.chargeIfWeighed(3, 290));
        Fresh.gives("5 kg of waste", 0, BUSY, w -> w.chargeIfWeighed(3, 285));
        Fresh.gives("and 1 kg more", 1, BUSY, w -> w.chargeIfWeighed(3, 284));
        Fresh.gives("all, 285 kg are lost", 171, BUSY, w -> w.chargeIfWeighed(3, 0));
        Fresh.gives("locked", 171, BUSY, w -> Fresh.last(w.lock(3), w.chargeIfWeighed(3, 0)));
        Fresh.gives("not proved", 342, busyAfter(w -> Fresh.openBroken(w, 3)), w -> w.chargeIfWeighed(3, 0));
        Fresh.gives("with debt", 171, busyAfter(Fresh::makeDebt), w -> w.chargeIfWeighed(3, 0));
        Fresh.gives("weighed just now", 174, BUSY, w -> Fresh.last(w.weigh(3, 290), w.chargeIfWeighed(3, 0)));
        Fresh.changesNothing("asking", BUSY, w -> w.chargeIfWeighed(3, 0));
        Sentences.says("`entry`: its number");
        Fresh.gives("entry 0", 60, BUSY, w -> w.chargeIfWeighed(0, 0));
        Sentences.says("`found`: the weight that is found, 0 to the weight of the entry");
        Fresh.gives("0", 60, BUSY, w -> w.chargeIfWeighed(0, 0));
        Fresh.gives("60", 0, BUSY, w -> w.chargeIfWeighed(0, 60));
        Sentences.says(NO_ENTRY);
        Fresh.refusesEach("entry", Check.INDEX, Fresh.NO_ENTRIES, BUSY, (w, entry) -> w.chargeIfWeighed(entry, 0));
        Fresh.refuses("and too much", Check.INDEX, BUSY, w -> w.chargeIfWeighed(2, 51));
        Sentences.says("Throws `IllegalArgumentException` if found is out of range");
        Fresh.refusesEach("found", Check.ARGUMENT, Fresh.outside(0, 60), BUSY,
                (w, found) -> w.chargeIfWeighed(0, found));
        Fresh.refuses("and locked", Check.ARGUMENT, busyAfter(w -> w.lock(0)), w -> w.chargeIfWeighed(0, 61));
    }

    private static void drawbackFor() {
        Sentences.promise(70);
        Sentences.says("Tells what would be paid back for goods of a receipt now"
                + " (whether it is too old or not, whether there is debt or not)");
        Fresh.gives("now", 36, BUSY, w -> w.drawbackFor(1, 40));
        Fresh.gives("60 days", 36, BUSY, w -> Fresh.last(w.pass(44), w.drawbackFor(1, 40)));
        Fresh.gives("61 days", 36, BUSY, w -> Fresh.last(w.pass(45), w.drawbackFor(1, 40)));
        Fresh.gives("with debt", 36, busyAfter(Fresh::makeDebt), w -> w.drawbackFor(1, 40));
        Fresh.changesNothing("asking", BUSY, w -> w.drawbackFor(1, 40));
        Sentences.says("`receipt`: 0 for the latest receipt, and so on");
        Fresh.gives("the latest, of 6 crowns", 5, BUSY, w -> w.drawbackFor(0, 10));
        Sentences.says("`weight`: 1 to the weight that the receipt has still");
        Fresh.gives("1", 0, BUSY, w -> w.drawbackFor(1, 1));
        Fresh.gives("2", 1, BUSY, w -> w.drawbackFor(1, 2));
        Fresh.gives("39, still", 35, BUSY, w -> Fresh.last(w.drawBack(1, 1), w.drawbackFor(1, 39)));
        Sentences.says(NO_RECEIPT);
        Fresh.refusesEach("receipt", Check.INDEX, Fresh.NO_RECEIPTS, BUSY, (w, receipt) -> w.drawbackFor(receipt, 1));
        Fresh.refuses("and no weight", Check.INDEX, BUSY, w -> w.drawbackFor(2, 0));
        Sentences.says(NO_WEIGHT);
        Fresh.refusesEach("weight", Check.ARGUMENT, Fresh.outside(1, 40), BUSY, (w, kg) -> w.drawbackFor(1, kg));
        Fresh.refuses("40 of 39", Check.ARGUMENT, busyAfter(w -> w.drawBack(1, 1)), w -> w.drawbackFor(1, 40));
        Fresh.refuses("1 of 0", Check.ARGUMENT, busyAfter(w -> w.drawBack(1, 40)), w -> w.drawbackFor(1, 1));
        Fresh.refuses("0 of 0", Check.ARGUMENT, busyAfter(w -> w.drawBack(1, 40)), w -> w.drawbackFor(1, 0));
    }

    private static void dutyLater() {
        Sentences.promise(71);
        Sentences.says("Tells the duty that an entry as a whole will have after some days, if nothing else is done");
        Fresh.gives("at 200 days", 174, BUSY, w -> w.dutyLater(3, 184));
        Fresh.gives("at 201 days", 192, BUSY, w -> w.dutyLater(3, 185));
        Fresh.gives("overdue now", 192, busyAfter(w -> Fresh.pass(w, 185)), w -> w.dutyLater(3, 0));
        Fresh.gives("behind the last day", 192, busyAfter(w -> Fresh.pass(w, 9983)), w -> w.dutyLater(3, 365));
        Fresh.changesNothing("asking", BUSY, w -> w.dutyLater(3, 365));
        Sentences.says("`entry`: its number");
        Fresh.gives("entry 4", 6, BUSY, w -> w.dutyLater(4, 185));
        Sentences.says("`days`: 0 to 365");
        Fresh.gives("0", 174, BUSY, w -> w.dutyLater(3, 0));
        Fresh.gives("365", 192, BUSY, w -> w.dutyLater(3, 365));
        Sentences.says(NO_ENTRY);
        Fresh.refusesEach("entry", Check.INDEX, Fresh.NO_ENTRIES, BUSY, (w, entry) -> w.dutyLater(entry, 0));
        Fresh.refuses("and no days", Check.INDEX, BUSY, w -> w.dutyLater(2, -1));
        Sentences.says("Throws `IllegalArgumentException` if days is out of range");
        Fresh.refusesEach("days", Check.ARGUMENT, Fresh.outside(0, 365), BUSY, (w, days) -> w.dutyLater(3, days));
    }

    private static void daysToOverdue() {
        Sentences.promise(72);
        Sentences.says("Tells after how many days an entry is overdue");
        Fresh.gives("entered today", 201, BUSY, w -> Fresh.last(w.enter(0, 1, 1, 0), w.daysToOverdue(5)));
        Fresh.gives("16 days", 185, BUSY, w -> w.daysToOverdue(0));
        Fresh.gives("200 days", 1, busyAfter(w -> Fresh.pass(w, 184)), w -> w.daysToOverdue(0));
        Sentences.says("0 if it is overdue");
        Fresh.gives("201 days", 0, busyAfter(w -> Fresh.pass(w, 185)), w -> w.daysToOverdue(0));
        Fresh.gives("202 days", 0, busyAfter(w -> Fresh.pass(w, 186)), w -> w.daysToOverdue(0));
        Fresh.gives("9999 days", 0, busyAfter(w -> Fresh.pass(w, 9983)), w -> w.daysToOverdue(0));
        Sentences.says("`entry`: its number");
        Fresh.gives("entry 4", 185, BUSY, w -> w.daysToOverdue(4));
        Sentences.says(NO_ENTRY);
        Fresh.refusesEach("entry", Check.INDEX, Fresh.NO_ENTRIES, BUSY, BondWarehouse::daysToOverdue);
    }

    private static void nextOverdue() {
        Sentences.promise(73);
        Sentences.says("Returns the open entry that is not overdue, and will be overdue first,"
                + " among like ones the one with the least number");
        Fresh.gives("among like ones", 0, BUSY, BondWarehouse::nextOverdue);
        Fresh.gives("the first is closed", 1, BUSY, w -> Fresh.last(w.sendAbroad(0, 60), w.nextOverdue()));
        Supplier<BondWarehouse> three = after(w -> {
            w.pass(10);
            w.enter(0, 2, 1, 0);
            w.pass(1);
            w.enter(0, 2, 1, 0);
            w.pass(1);
            w.enter(0, 2, 1, 0);
        });
        Fresh.gives("the oldest", 0, three, BondWarehouse::nextOverdue);
        Fresh.gives("the oldest, weighed today", 0, three, w -> Fresh.last(w.weigh(0, 2), w.nextOverdue()));
        Fresh.gives("a part of the oldest, behind it", 3, three, w -> {
            w.split(0, 1);
            w.sendAbroad(0, 1);
            return w.nextOverdue();
        });
        Fresh.gives("200 days", 0, three, w -> {
            Fresh.pass(w, 198);
            return w.nextOverdue();
        });
        Fresh.gives("201 days", 1, three, w -> {
            Fresh.pass(w, 199);
            return w.nextOverdue();
        });
        Fresh.gives("all but one are overdue", 2, three, w -> {
            Fresh.pass(w, 200);
            return w.nextOverdue();
        });
        Sentences.says("NONE if there is none");
        Fresh.gives("no entry", BondWarehouse.NONE, EMPTY, BondWarehouse::nextOverdue);
        Fresh.gives("all are overdue", BondWarehouse.NONE, three, w -> {
            Fresh.pass(w, 201);
            return w.nextOverdue();
        });
    }

    private static void cheapestEntry() {
        Sentences.promise(74);
        Sentences.says("Finds the cheapest entry of a kind: the one whose duty as a whole,"
                + " divided by its weight (exactly), is the least, among like ones the one with the least number");
        Fresh.gives("5 crowns for 20 kg, and not 60 for 60", 4, BUSY, w -> w.cheapestEntry(0));
        int[][][] goods = {
            // weight and value of two of them, for the first pair 2 crowns for 3 kg and 67 for 101
            {{3, 20}, {101, 670}}, {{101, 670}, {3, 20}}, {{3, 20}, {99, 660}}, {{99, 660}, {3, 20}},
            {{999, 9999}, {998, 9989}}, {{998, 9980}, {999, 9989}}, {{1, 1}, {1, 1}}, {{2, 1}, {1, 1}}, {{1, 1},
                    {2, 1}},
            {{999, 1}, {998, 1}}, {{998, 1}, {999, 1}}};
        int[] due = {1, 0, 0, 0, 0, 0, 0, 0, 1, 0, 1};
        for (int i = 0; i < goods.length; i++) {
            int[][] g = goods[i];
            Fresh.gives("pair " + i, due[i], EMPTY, w -> {
                w.enter(0, g[0][0], g[0][1], 0);
                w.enter(0, g[1][0], g[1][1], 1);
                return w.cheapestEntry(0);
            });
        }
        Fresh.gives("without duties", 0, BUSY, w -> Fresh.last(w.setRateByValue(0, 0), w.cheapestEntry(0)));
        // 20 crowns for 2 kg are 22 now, and 21 for 2 kg are as before
        Supplier<BondWarehouse> late = after(w -> {
            w.enter(0, 2, 200, 0);
            w.pass(1);
            w.enter(0, 2, 210, 0);
            Fresh.pass(w, 199);
        });
        Fresh.gives("200 days", 0, late, w -> w.cheapestEntry(0));
        Fresh.gives("overdue", 1, late, w -> Fresh.last(w.pass(1), w.cheapestEntry(0)));
        Sentences.says("NONE if there is none of this kind");
        Fresh.gives("none at all", BondWarehouse.NONE, EMPTY, w -> w.cheapestEntry(0));
        Fresh.gives("none of kind 5", BondWarehouse.NONE, BUSY, w -> w.cheapestEntry(5));
        Fresh.gives("closed", BondWarehouse.NONE, BUSY, w -> w.cheapestEntry(2));
        Sentences.says("`kind`: 0 to 5");
        Fresh.gives("5", 5, BUSY, w -> Fresh.last(w.enter(5, 1, 1, 0), w.cheapestEntry(5)));
        Fresh.gives("4", 3, BUSY, w -> w.cheapestEntry(4));
        Sentences.says("Throws `IllegalArgumentException` if kind is out of range");
        Fresh.refusesEach("kind", Check.ARGUMENT, Fresh.NO_KINDS, BUSY, BondWarehouse::cheapestEntry);
    }

    /** Of kind 0: 10 kg for 100 crowns of duty, 100 kg for 100, 40 kg for 100, 50 kg for 50, like the second. */
    private static BondWarehouse four() {
        return Fresh.after(w -> {
            w.enter(0, 10, 1000, 0);
            w.enter(0, 100, 1000, 1);
            w.enter(1, 100, 1, 1);
            w.enter(0, 40, 1000, 2);
            w.enter(0, 50, 500, 2);
        });
    }

    private static void dutyFromCheapest() {
        Sentences.promise(75);
        Sentences.says("Tells the duty for a weight of a kind if it is taken from the cheapest entries first");
        Fresh.gives("1 kg", 1, ReasonBoundaries::four, w -> w.dutyFromCheapest(0, 1));
        Fresh.changesNothing("asking", ReasonBoundaries::four, w -> w.dutyFromCheapest(0, 200));
        Sentences.says("the entries of this kind are gone through in the order of cheapestEntry() (as they are now)");
        // 2 crowns for 3 kg; 3 for 4, but 2 for 3 of them: as parts they would be alike
        Supplier<BondWarehouse> two = after(w -> {
            w.enter(0, 4, 21, 0);
            w.enter(0, 3, 20, 0);
        });
        Fresh.gives("1 kg of the second", 1, two, w -> w.dutyFromCheapest(0, 1));
        Fresh.gives("the second, and 1 kg of the first", 2 + 1, two, w -> w.dutyFromCheapest(0, 4));
        Fresh.gives("the second, and 3 kg of the first", 2 + 2, two, w -> w.dutyFromCheapest(0, 6));
        Fresh.gives("all", 2 + 3, two, w -> w.dutyFromCheapest(0, 7));
        Sentences.says("of each one as much is taken as it has, or as is missing still, if that is less");
        int[] weights = {99, 100, 101, 149, 150, 151, 189, 190, 191, 199, 200};
        int[] due = {99, 100, 101, 149, 150, 153, 248, 250, 260, 340, 350};
        for (int i = 0; i < weights.length; i++) {
            int weight = weights[i];
            Fresh.gives(weight + " kg", due[i], ReasonBoundaries::four, w -> w.dutyFromCheapest(0, weight));
        }
        Sentences.says("the duties of these parts are added");
        Fresh.gives("each rounded up for itself", 2, after(w -> {
            w.enter(0, 10, 1, 0);
            w.enter(0, 10, 1, 0);
        }), w -> w.dutyFromCheapest(0, 20));
        Fresh.gives("a part without value", 1, after(w -> {
            w.enter(0, 10, 1, 0);
            w.enter(0, 10, 1, 0);
        }), w -> w.dutyFromCheapest(0, 19));
        Fresh.gives("a tenth for those that are overdue", 110 + 55 + 110 + 110, ReasonBoundaries::four, w -> {
            Fresh.pass(w, 201);
            return w.dutyFromCheapest(0, 200);
        });
        Sentences.says("(Chambers, seals, debt and the account do not matter.)");
        Fresh.gives("as before", 350, ReasonBoundaries::four, w -> {
            Fresh.makeDebt(w);
            Fresh.openBroken(w, 1);
            w.lock(2);
            return w.dutyFromCheapest(0, 200);
        });
    }

    private static void dutyFromCheapestRefused() {
        Sentences.says("NONE if the stock is less than the weight");
        Fresh.gives("1 kg less", BondWarehouse.NONE, ReasonBoundaries::four, w -> w.dutyFromCheapest(0, 201));
        Fresh.gives("just as much", 350, ReasonBoundaries::four, w -> w.dutyFromCheapest(0, 200));
        Fresh.gives("much less", BondWarehouse.NONE, ReasonBoundaries::four, w -> w.dutyFromCheapest(0, 9999));
        Fresh.gives("none", BondWarehouse.NONE, EMPTY, w -> w.dutyFromCheapest(0, 1));
        Fresh.gives("none of kind 5", BondWarehouse.NONE, ReasonBoundaries::four, w -> w.dutyFromCheapest(5, 1));
        Sentences.says("`kind`: 0 to 5");
        Fresh.gives("1", 11, ReasonBoundaries::four, w -> w.dutyFromCheapest(1, 100));
        Fresh.gives("5", 2, ReasonBoundaries::four, w -> Fresh.last(w.enter(5, 1, 1, 0), w.dutyFromCheapest(5, 1)));
        Sentences.says("`weight`: 1 to 9999");
        Fresh.gives("1", 1, ReasonBoundaries::four, w -> w.dutyFromCheapest(0, 1));
        Supplier<BondWarehouse> full = after(w -> {
            for (int i = 0; i < 15; i++) {
                w.enter(0, i % 3 == 2 ? 2 : 999, 10, i / 3);
            }
        });
        Fresh.gives("9999", 15, full, w -> w.dutyFromCheapest(0, 9999));
        Sentences.says("Throws `IllegalArgumentException` if an argument is out of range");
        Fresh.refusesEach("kind", Check.ARGUMENT, Fresh.NO_KINDS, BUSY, (w, kind) -> w.dutyFromCheapest(kind, 1));
        Fresh.refusesEach("weight", Check.ARGUMENT, Fresh.outside(1, 9999), BUSY, (w, kg) -> w.dutyFromCheapest(0, kg));
        Fresh.refuses("10000 kg that are there", Check.ARGUMENT, full, w -> w.dutyFromCheapest(0, 10000));
    }

    private static void dearestEntry() {
        Sentences.promise(76);
        Sentences.says("Returns the open entry with the greatest duty as a whole,"
                + " among like ones the one with the least number");
        Fresh.gives("200 crowns", 1, BUSY, BondWarehouse::dearestEntry);
        Fresh.gives("it is closed", 3, BUSY, w -> Fresh.last(w.sendAbroad(1, 200), w.dearestEntry()));
        Supplier<BondWarehouse> like = after(w -> {
            w.enter(0, 10, 99, 0);
            w.enter(0, 10, 100, 0);
            w.enter(0, 20, 91, 0);
        });
        Fresh.gives("among like ones", 0, like, BondWarehouse::dearestEntry);
        Fresh.gives("one crown more", 3, like, w -> Fresh.last(w.enter(0, 1, 101, 0), w.dearestEntry()));
        Fresh.gives("without duties", 0, like, w -> Fresh.last(w.setRateByValue(0, 0), w.dearestEntry()));
        Fresh.gives("overdue", 0, like, w -> {
            w.pass(1);
            w.enter(0, 1, 101, 0);
            Fresh.pass(w, 200);
            return w.dearestEntry();
        });
        Sentences.says("NONE without entries");
        Fresh.gives("none", BondWarehouse.NONE, EMPTY, BondWarehouse::dearestEntry);
        Fresh.gives("none any more", BondWarehouse.NONE, after(w -> w.sendAbroad(w.enter(0, 1, 1, 0), 1)),
                BondWarehouse::dearestEntry);
    }
}
