import java.util.function.Supplier;

/** Promises 1 to 9, sentence by sentence: a new object; goods come, go, and are handled. */
final class GoodsBoundaries {
    private static final Supplier<BondWarehouse> EMPTY = Fresh::empty;
    private static final Supplier<BondWarehouse> BUSY = Fresh::busy;
    private static final String NO_ENTRY = "Throws `IndexOutOfBoundsException` if there is no such entry";
    private static final String NO_WEIGHT = "Throws `IllegalArgumentException` if weight is out of range";

    private GoodsBoundaries() {
    }

    static void all() {
        newObject();
        enter();
        withdraw();
        sendAbroad();
        drawBack();
        move();
        split();
        splitRefused();
        merge();
        mergeRefused();
        weigh();
    }

    private static Supplier<BondWarehouse> busyAfter(Fresh.Steps steps) {
        return () -> Fresh.busyAfter(steps);
    }

    private static void newObject() {
        Sentences.promise(1);
        Sentences.says("Creates an empty warehouse on the day 0, with empty accounts");
        Fresh.Call[] zeros = {BondWarehouse::day, BondWarehouse::entries, BondWarehouse::entriesMade,
            BondWarehouse::receipts, BondWarehouse::dutyAtStake, BondWarehouse::account, BondWarehouse::debt,
            BondWarehouse::balance, BondWarehouse::balanceByTotals, BondWarehouse::deposits, BondWarehouse::dutiesPaid,
            BondWarehouse::charges, BondWarehouse::drawbacks, BondWarehouse::savedStates, BondWarehouse::firstError,
            BondWarehouse::clearText, w -> w.entriesIn(0) + w.entriesIn(4), w -> w.entered(0) + w.entered(5)};
        for (int i = 0; i < zeros.length; i++) {
            Fresh.gives("of nothing " + i, 0, EMPTY, zeros[i]);
        }
        BondWarehouse used = Fresh.busy();
        Check.is("another object is used", 4, used::entries);
        Check.compare("two new objects", Told.of(new BondWarehouse()), Told.of(new BondWarehouse()));
    }

    private static void enter() {
        Sentences.promise(2);
        Sentences.says("Enters goods");
        Fresh.gives("the first", 0, EMPTY, w -> w.enter(0, 1, 1, 0));
        Sentences.says("Undoable");
        Fresh.saves("enter", BUSY, w -> w.enter(0, 1, 1, 0));
        String refused = "Throws `IllegalArgumentException` if an argument is out of range";
        Sentences.says("`kind`: 0 to 5");
        Fresh.gives("0", 0, EMPTY, w -> Fresh.last(w.enter(0, 1, 1, 0), w.kindOf(0)));
        Fresh.gives("5", 5, EMPTY, w -> Fresh.last(w.enter(5, 1, 1, 0), w.kindOf(0)));
        Fresh.refusesEach("kind", Check.ARGUMENT, Fresh.NO_KINDS, BUSY, (w, kind) -> w.enter(kind, 1, 1, 0));
        Sentences.says("`weight`: 1 to 999");
        Fresh.gives("1", 1, EMPTY, w -> Fresh.last(w.enter(0, 1, 1, 0), w.weightOf(0)));
        Fresh.gives("999", 999, EMPTY, w -> Fresh.last(w.enter(0, 999, 1, 0), w.weightOf(0)));
        Fresh.refusesEach("weight", Check.ARGUMENT, Fresh.outside(1, 999), BUSY,
                (w, weight) -> w.enter(0, weight, 1, 0));
        Sentences.says("`value`: 1 to 9999");
        Fresh.gives("1", 1, EMPTY, w -> Fresh.last(w.enter(0, 1, 1, 0), w.valueOf(0)));
        Fresh.gives("9999", 9999, EMPTY, w -> Fresh.last(w.enter(0, 1, 9999, 0), w.valueOf(0)));
        Fresh.refusesEach("value", Check.ARGUMENT, Fresh.outside(1, 9999), BUSY, (w, value) -> w.enter(0, 1, value, 0));
        Sentences.says("`chamber`: 0 to 4");
        Fresh.gives("0", 0, EMPTY, w -> Fresh.last(w.enter(0, 1, 1, 0), w.chamberOf(0)));
        Fresh.gives("4", 4, EMPTY, w -> Fresh.last(w.enter(0, 1, 1, 4), w.chamberOf(0)));
        Fresh.refusesEach("chamber", Check.ARGUMENT, Fresh.NO_CHAMBERS, BUSY, (w, c) -> w.enter(0, 1, 1, c));
        Sentences.says(refused);
        Fresh.refuses("all of them", Check.ARGUMENT, BUSY, w -> w.enter(-1, 0, 0, -1));
        Fresh.refuses("and locked", Check.ARGUMENT, BUSY, w -> w.enter(0, 0, 1, 4));
        Fresh.refuses("and debt", Check.ARGUMENT, busyAfter(Fresh::makeDebt), w -> w.enter(6, 1, 1, 0));
        Sentences.says("Throws `IllegalStateException` if they cannot be entered (see whyNoEntry())");
        Fresh.refuses("debt", Check.STATE, busyAfter(Fresh::makeDebt), w -> w.enter(0, 1, 1, 0));
        Fresh.refuses("locked", Check.STATE, BUSY, w -> w.enter(0, 1, 1, 4));
        Supplier<BondWarehouse> full = busyAfter(w -> {
            w.enter(3, 999, 1, 2);
            w.enter(3, 999, 1, 2);
        });
        Fresh.refuses("no room", Check.STATE, full, w -> w.enter(0, 3, 1, 2));
        Fresh.gives("just enough room", 7, full, w -> w.enter(0, 2, 1, 2));
        Supplier<BondWarehouse> crowded = busyAfter(w -> {
            for (int i = 0; i < 12; i++) {
                w.enter(0, 1, 1, 2);
            }
        });
        Fresh.refuses("16 entries", Check.STATE, crowded, w -> w.enter(0, 1, 1, 2));
        Fresh.gives("15 entries", 17, crowded, w -> Fresh.last(w.sendAbroad(0, 60), w.enter(0, 1, 1, 2)));
        Supplier<BondWarehouse> bound = busyAfter(w -> w.setBond(539));
        Fresh.refuses("over the bond", Check.STATE, bound, w -> w.enter(0, 1, 1001, 2));
        Fresh.gives("just the bond", 5, bound, w -> w.enter(0, 1, 1000, 2));
    }

    private static void withdraw() {
        Sentences.promise(3);
        Sentences.says("A part of an entry (or the whole) leaves into the country");
        Fresh.gives("the least part", 59, BUSY, w -> Fresh.last(w.withdraw(0, 1), w.weightOf(0)));
        Fresh.gives("nearly the whole", 1, BUSY, w -> Fresh.last(w.withdraw(0, 59), w.weightOf(0)));
        Fresh.gives("the whole", 0, BUSY, w -> Fresh.last(w.withdraw(0, 60), Fresh.flag(w.isOpenEntry(0))));
        Fresh.gives("told", 40 + 60, BUSY, w -> Fresh.last(w.withdraw(0, 60), w.withdrawn(0)));
        Sentences.says("its duty is paid from the account, and a receipt is made");
        Fresh.gives("duty", 60, BUSY, w -> w.withdraw(0, 60));
        Fresh.gives("account", 454 - 60, BUSY, w -> Fresh.last(w.withdraw(0, 60), w.account()));
        Fresh.gives("receipts", 3, BUSY, w -> Fresh.last(w.withdraw(0, 60), w.receipts()));
        Fresh.gives("its weight", 60, BUSY, w -> Fresh.last(w.withdraw(0, 60), w.receiptWeight(0)));
        Sentences.says("Undoable");
        Fresh.saves("withdraw", BUSY, w -> w.withdraw(0, 60));
        Sentences.says("`entry`: the number of the entry");
        Fresh.gives("entry 4", 5, BUSY, w -> w.withdraw(4, 20));
        Sentences.says("`weight`: the weight of the part, 1 to 999");
        Supplier<BondWarehouse> heavy = () -> Fresh.after(w -> w.enter(0, 999, 1, 0));
        Fresh.gives("999", 1, heavy, w -> w.deposit(1) * w.withdraw(0, 999));
        Fresh.gives("1", 0, heavy, w -> w.withdraw(0, 1));
        Sentences.says(NO_ENTRY);
        Fresh.refusesEach("entry", Check.INDEX, Fresh.NO_ENTRIES, BUSY, (w, entry) -> w.withdraw(entry, 1));
        Fresh.refuses("and no weight", Check.INDEX, BUSY, w -> w.withdraw(2, 0));
        Fresh.refuses("of none", Check.INDEX, EMPTY, w -> w.withdraw(0, 1));
        Sentences.says(NO_WEIGHT);
        Fresh.refusesEach("weight", Check.ARGUMENT, Fresh.outside(1, 999), BUSY, (w, weight) -> w.withdraw(0, weight));
        Fresh.refuses("and locked", Check.ARGUMENT, busyAfter(w -> w.lock(0)), w -> w.withdraw(0, 1000));
        Sentences.says("Throws `IllegalStateException` if it cannot leave (see whyNoWithdrawal())");
        Fresh.refuses("debt", Check.STATE, busyAfter(Fresh::makeDebt), w -> w.withdraw(0, 1));
        Fresh.refuses("locked", Check.STATE, busyAfter(w -> w.lock(0)), w -> w.withdraw(0, 1));
        Fresh.refuses("not proved", Check.STATE, busyAfter(w -> Fresh.openBroken(w, 0)), w -> w.withdraw(0, 1));
        Fresh.refuses("more than it has", Check.STATE, BUSY, w -> w.withdraw(0, 61));
        Fresh.refuses("more than any has", Check.STATE, BUSY, w -> w.withdraw(0, 999));
        Supplier<BondWarehouse> poor = () -> Fresh.after(w -> {
            w.deposit(10);
            w.enter(0, 100, 1000, 0);
        });
        Fresh.refuses("too dear", Check.STATE, poor, w -> w.withdraw(0, 11));
        Fresh.gives("just paid", 10, poor, w -> w.withdraw(0, 10));
        Fresh.gives("overdue, and yet", 11, poor, w -> {
            Fresh.pass(w, 201);
            w.deposit(1);
            return w.withdraw(0, 10);
        });
    }

    private static void sendAbroad() {
        Sentences.promise(4);
        Sentences.says("A part of an entry (or the whole) leaves abroad, without duty");
        Fresh.gives("told", 60, BUSY, w -> Fresh.last(w.sendAbroad(0, 60), w.sentAbroad(0)));
        Fresh.gives("account", 454, BUSY, w -> Fresh.last(w.sendAbroad(0, 60), w.account()));
        Fresh.gives("duties", 46, BUSY, w -> Fresh.last(w.sendAbroad(0, 60), w.dutiesPaid()));
        Fresh.gives("receipts", 2, BUSY, w -> Fresh.last(w.sendAbroad(0, 60), w.receipts()));
        Fresh.gives("with an empty account", 0, () -> Fresh.after(w -> w.enter(0, 1, 9999, 0)),
                w -> w.sendAbroad(0, 1));
        Sentences.says("Undoable");
        Fresh.saves("sendAbroad", BUSY, w -> w.sendAbroad(0, 60));
        Sentences.says("Returns the weight that the entry has then");
        Fresh.gives("the least part", 59, BUSY, w -> w.sendAbroad(0, 1));
        Fresh.gives("nearly the whole", 1, BUSY, w -> w.sendAbroad(0, 59));
        Fresh.gives("the whole", 0, BUSY, w -> w.sendAbroad(0, 60));
        Fresh.gives("the whole of the last", 0, BUSY, w -> w.sendAbroad(4, 20));
        Sentences.says("`entry`: the number of the entry");
        Fresh.gives("entry 1", 199, BUSY, w -> w.sendAbroad(1, 1));
        Sentences.says("`weight`: the weight of the part, 1 to 999");
        Fresh.gives("999", 0, () -> Fresh.after(w -> w.enter(0, 999, 1, 0)), w -> w.sendAbroad(0, 999));
        Sentences.says(NO_ENTRY);
        Fresh.refusesEach("entry", Check.INDEX, Fresh.NO_ENTRIES, BUSY, (w, entry) -> w.sendAbroad(entry, 1));
        Fresh.refuses("and no weight", Check.INDEX, BUSY, w -> w.sendAbroad(2, 0));
        Sentences.says(NO_WEIGHT);
        Fresh.refusesEach("weight", Check.ARGUMENT, Fresh.outside(1, 999), BUSY,
                (w, weight) -> w.sendAbroad(0, weight));
        Fresh.refuses("and locked", Check.ARGUMENT, busyAfter(w -> w.lock(0)), w -> w.sendAbroad(0, 1000));
        Sentences.says("Throws `IllegalStateException` if it cannot leave (see whyNoExport())");
        Fresh.refuses("debt", Check.STATE, busyAfter(Fresh::makeDebt), w -> w.sendAbroad(0, 1));
        Fresh.refuses("locked", Check.STATE, busyAfter(w -> w.lock(0)), w -> w.sendAbroad(0, 1));
        Fresh.refuses("not proved", Check.STATE, busyAfter(w -> Fresh.openBroken(w, 0)), w -> w.sendAbroad(0, 1));
        Fresh.refuses("more than it has", Check.STATE, BUSY, w -> w.sendAbroad(0, 61));
        Fresh.refuses("overdue", Check.STATE, busyAfter(w -> Fresh.pass(w, 185)), w -> w.sendAbroad(0, 1));
        Fresh.gives("the day before", 59, busyAfter(w -> Fresh.pass(w, 184)), w -> w.sendAbroad(0, 1));
    }

    private static void drawBack() {
        Sentences.promise(5);
        Sentences.says("Goods of a receipt go abroad");
        Fresh.gives("told", 5, BUSY, w -> Fresh.last(w.drawBack(1, 5), w.drawnBack(0)));
        Fresh.gives("not out of the warehouse", 0, BUSY, w -> Fresh.last(w.drawBack(1, 5), w.sentAbroad(0)));
        Sentences.says("a part of their duty is paid back");
        Fresh.gives("account", 454 + 4, BUSY, w -> Fresh.last(w.drawBack(1, 5), w.account()));
        Fresh.gives("drawbacks", 4, BUSY, w -> Fresh.last(w.drawBack(1, 5), w.drawbacks()));
        Sentences.says("Undoable");
        Fresh.saves("drawBack", BUSY, w -> w.drawBack(1, 40));
        Sentences.says("Returns the crowns that are paid back");
        Fresh.gives("5 kg", 4, BUSY, w -> w.drawBack(1, 5));
        Fresh.gives("40 kg", 36, BUSY, w -> w.drawBack(1, 40));
        Fresh.gives("nothing", 0, BUSY, w -> w.drawBack(1, 1));
        Sentences.says("`receipt`: 0 for the latest receipt, and so on");
        Fresh.gives("the latest: 6 crowns", 5, BUSY, w -> w.drawBack(0, 10));
        Supplier<BondWarehouse> twelve = () -> Fresh.after(w -> {
            w.deposit(5000);
            w.enter(0, 100, 5000, 0);
            for (int i = 1; i <= 13; i++) {
                w.withdraw(0, i);
            }
        });
        Fresh.gives("the twelfth, of 2 kg", 9, twelve, w -> w.drawBack(11, 2));
        Sentences.says("`weight`: their weight, 1 to 999");
        Supplier<BondWarehouse> heavy = () -> Fresh.after(w -> {
            w.deposit(1000);
            w.enter(0, 999, 9990, 0);
            w.withdraw(0, 999);
        });
        Fresh.gives("1", 0, heavy, w -> w.drawBack(0, 1));
        Fresh.gives("999", 899, heavy, w -> w.drawBack(0, 999));
        Sentences.says("Throws `IndexOutOfBoundsException` if not so many receipts are kept, or receipt is negative");
        Fresh.refusesEach("receipt", Check.INDEX, Fresh.NO_RECEIPTS, BUSY, (w, receipt) -> w.drawBack(receipt, 1));
        Fresh.refuses("and no weight", Check.INDEX, BUSY, w -> w.drawBack(2, 0));
        Fresh.refuses("of none", Check.INDEX, EMPTY, w -> w.drawBack(0, 1));
        Fresh.refuses("the thirteenth", Check.INDEX, twelve, w -> w.drawBack(12, 1));
        Sentences.says(NO_WEIGHT);
        Fresh.refusesEach("weight", Check.ARGUMENT, Fresh.outside(1, 999), BUSY, (w, weight) -> w.drawBack(1, weight));
        Fresh.refuses("and debt", Check.ARGUMENT, busyAfter(Fresh::makeDebt), w -> w.drawBack(1, 0));
        Sentences.says("Throws `IllegalStateException` if nothing can be paid back for them (see whyNoDrawback())");
        Fresh.refuses("debt", Check.STATE, busyAfter(Fresh::makeDebt), w -> w.drawBack(1, 1));
        Fresh.refuses("61 days", Check.STATE, busyAfter(w -> w.pass(45)), w -> w.drawBack(1, 1));
        Fresh.gives("60 days", 36, busyAfter(w -> w.pass(44)), w -> w.drawBack(1, 40));
        Fresh.refuses("more than it has", Check.STATE, BUSY, w -> w.drawBack(1, 41));
        Fresh.refuses("more than it has still", Check.STATE, busyAfter(w -> w.drawBack(1, 1)), w -> w.drawBack(1, 40));
        Fresh.refuses("nothing is left", Check.STATE, busyAfter(w -> w.drawBack(1, 40)), w -> w.drawBack(1, 1));
    }

    private static void move() {
        Sentences.promise(6);
        Sentences.says("Moves an entry into another chamber");
        Fresh.gives("chamber", 2, BUSY, w -> Fresh.last(w.move(0, 2), w.chamberOf(0)));
        Fresh.gives("the room it had", 2000, BUSY, w -> Fresh.last(w.move(0, 2), w.roomIn(0)));
        Sentences.says("Undoable");
        Fresh.saves("move", BUSY, w -> w.move(0, 2));
        Sentences.says("Returns the room that is left in that chamber then");
        Fresh.gives("in an empty one", 1940, BUSY, w -> w.move(0, 2));
        Fresh.gives("with others", 1740, BUSY, w -> w.move(0, 1));
        Supplier<BondWarehouse> full = busyAfter(w -> {
            w.enter(3, 999, 1, 2);
            w.enter(3, 941, 1, 2);
        });
        Fresh.gives("none is left", 0, full, w -> w.move(0, 2));
        Sentences.says("`entry`: the number of the entry");
        Fresh.gives("entry 4", 1980, BUSY, w -> w.move(4, 2));
        Sentences.says("`chamber`: 0 to 4");
        Fresh.gives("0", 1740, BUSY, w -> w.move(1, 0));
        Fresh.gives("4", 1940, busyAfter(w -> w.open(4)), w -> w.move(0, 4));
        Sentences.says("Throws `IndexOutOfBoundsException` if there is no such entry or chamber");
        Fresh.refusesEach("entry", Check.INDEX, Fresh.NO_ENTRIES, BUSY, (w, entry) -> w.move(entry, 2));
        Fresh.refusesEach("chamber", Check.INDEX, Fresh.NO_CHAMBERS, BUSY, (w, chamber) -> w.move(0, chamber));
        Fresh.refuses("both", Check.INDEX, BUSY, w -> w.move(2, 5));
        Fresh.refuses("and locked", Check.INDEX, busyAfter(w -> w.lock(0)), w -> w.move(0, 5));
        Sentences.says("Throws `IllegalStateException` if it cannot be moved there (see whyNoMove())");
        Fresh.refuses("it is there", Check.STATE, BUSY, w -> w.move(0, 0));
        Fresh.refuses("locked", Check.STATE, busyAfter(w -> w.lock(0)), w -> w.move(0, 2));
        Fresh.refuses("not proved", Check.STATE, busyAfter(w -> Fresh.openBroken(w, 0)), w -> w.move(0, 2));
        Fresh.refuses("into a locked one", Check.STATE, BUSY, w -> w.move(0, 4));
        Fresh.refuses("no room", Check.STATE, busyAfter(w -> {
            w.enter(3, 999, 1, 2);
            w.enter(3, 942, 1, 2);
        }), w -> w.move(0, 2));
    }

    private static void split() {
        Sentences.promise(7);
        Sentences.says("Makes an entry of a part of an entry, in the same chamber");
        Fresh.gives("chamber", 3, BUSY, w -> Fresh.last(w.split(3, 100), w.chamberOf(5)));
        Fresh.gives("kind", 4, BUSY, w -> Fresh.last(w.split(3, 100), w.kindOf(5)));
        Fresh.gives("weight", 100, BUSY, w -> Fresh.last(w.split(3, 100), w.weightOf(5)));
        Fresh.gives("room", 1690, BUSY, w -> Fresh.last(w.split(3, 100), w.roomIn(3)));
        Sentences.says("It has the share of the part as its value");
        // 580 * 99 / 290 = 198
        Fresh.gives("value", 198, BUSY, w -> Fresh.last(w.split(3, 99), w.valueOf(5)));
        Supplier<BondWarehouse> cheap = () -> Fresh.after(w -> w.enter(0, 999, 1, 0));
        Fresh.gives("no value", 0, cheap, w -> Fresh.last(w.split(0, 998), w.valueOf(1)));
        Fresh.gives("no duty", 0, cheap, w -> Fresh.last(w.split(0, 998), w.dutyOf(1)));
        Sentences.says("it is proved if the other one is, has the same age, and was weighed as long ago");
        Supplier<BondWarehouse> weighed = () -> Fresh.after(w -> {
            w.enter(4, 999, 999, 0);
            w.pass(13);
            w.weigh(0, 999);
            w.pass(27);
        });
        Fresh.gives("proved", 1, weighed, w -> w.split(0, 500) * Fresh.flag(w.isProved(1)));
        Fresh.gives("not proved", 0, weighed, w -> {
            Fresh.openBroken(w, 0);
            return Fresh.last(w.split(0, 500), Fresh.flag(w.isProved(1)));
        });
        Fresh.gives("age", 40, weighed, w -> Fresh.last(w.split(0, 500), w.ageOf(1)));
        Fresh.gives("27 days, 500 kg", 20, weighed, w -> Fresh.last(w.split(0, 500), w.allowedWaste(1)));
        Sentences.says("The other one has the weight and the share of the part less");
        Fresh.gives("weight of the other", 191, BUSY, w -> Fresh.last(w.split(3, 99), w.weightOf(3)));
        Fresh.gives("value of the other", 382, BUSY, w -> Fresh.last(w.split(3, 99), w.valueOf(3)));
        Fresh.gives("all value", 1, cheap, w -> Fresh.last(w.split(0, 998), w.valueOf(0)));
        Sentences.says("Undoable");
        Fresh.saves("split", BUSY, w -> w.split(3, 99));
        Sentences.says("Returns the number of the new entry");
        Fresh.gives("number", 5, BUSY, w -> w.split(3, 99));
        Sentences.says("`entry`: the number of the entry");
        Fresh.gives("entry 1", 199, BUSY, w -> Fresh.last(w.split(1, 1), w.weightOf(1)));
        Sentences.says("`weight`: the weight of the part, 1 to 998");
        Fresh.gives("1", 1, cheap, w -> Fresh.last(w.split(0, 1), w.weightOf(1)));
        Fresh.gives("998", 998, cheap, w -> Fresh.last(w.split(0, 998), w.weightOf(1)));
        Fresh.refusesEach("of 999 kg", Check.ARGUMENT, Fresh.outside(1, 998), cheap, (w, weight) -> w.split(0, weight));
    }

    private static void splitRefused() {
        Sentences.says(NO_ENTRY);
        Fresh.refusesEach("entry", Check.INDEX, Fresh.NO_ENTRIES, BUSY, (w, entry) -> w.split(entry, 1));
        Fresh.refuses("and no weight", Check.INDEX, BUSY, w -> w.split(2, 0));
        Sentences.says("Throws `IllegalArgumentException` if weight is out of range,"
                + " or is not less than the weight of the entry");
        Fresh.refusesEach("of 60 kg", Check.ARGUMENT, Fresh.outside(1, 59), BUSY, (w, weight) -> w.split(0, weight));
        Fresh.gives("59 of 60 kg", 1, BUSY, w -> Fresh.last(w.split(0, 59), w.weightOf(0)));
        Fresh.refuses("one of one", Check.ARGUMENT, () -> Fresh.after(w -> w.enter(0, 1, 9, 0)), w -> w.split(0, 1));
        Fresh.refuses("and locked", Check.ARGUMENT, busyAfter(w -> w.lock(0)), w -> w.split(0, 60));
        Sentences.says("Throws `IllegalStateException` if its chamber is locked, or there are 16 entries,"
                + " or 60 were made");
        Fresh.refuses("locked", Check.STATE, busyAfter(w -> w.lock(0)), w -> w.split(0, 1));
        Supplier<BondWarehouse> crowded = busyAfter(w -> {
            for (int i = 0; i < 11; i++) {
                w.enter(0, 2, 1, 2);
            }
        });
        Fresh.gives("the sixteenth", 16, crowded, w -> w.split(0, 1));
        Fresh.refuses("the seventeenth", Check.STATE, () -> {
            BondWarehouse w = crowded.get();
            w.split(0, 1);
            return w;
        }, w -> w.split(0, 1));
        Supplier<BondWarehouse> nearlyMadeOut = () -> Fresh.after(w -> {
            w.enter(0, 10, 10, 0);
            for (int i = 1; i < 59; i++) {
                w.split(0, 1);
                w.merge(0, i);
            }
        });
        Fresh.gives("the sixtieth", 59, nearlyMadeOut, w -> w.split(0, 1));
        Fresh.refuses("the sixty-first", Check.STATE, () -> {
            BondWarehouse w = nearlyMadeOut.get();
            w.merge(0, w.split(0, 1));
            return w;
        }, w -> w.split(0, 1));
        Fresh.gives("debt does not matter", 6, busyAfter(Fresh::makeDebt), w -> w.split(0, 1));
        Fresh.gives("nor does a proof", 5, busyAfter(w -> Fresh.openBroken(w, 0)), w -> w.split(0, 1));
        Fresh.gives("nor does the bond", 2, () -> Fresh.after(w -> {
            w.setBond(1);
            w.enter(0, 2, 2, 0);
            w.split(0, 1);
        }), BondWarehouse::dutyAtStake);
    }

    /** 100 kg, 50 days old, weighed 40 days ago; and 200 kg, 30 days old and never weighed; both of kind 2. */
    private static BondWarehouse likeOnes() {
        return Fresh.after(w -> {
            w.enter(2, 100, 999, 1);
            w.pass(10);
            w.weigh(0, 100);
            w.pass(10);
            w.enter(2, 200, 1, 1);
            w.pass(30);
        });
    }

    private static void merge() {
        Sentences.promise(8);
        for (int kept = 0; kept < 2; kept++) {
            int k = kept;
            Fresh.Call merge = w -> w.merge(k, 1 - k);
            Sentences.says("Merges an entry into another one: the weights and the values are added, the age is the"
                    + " greater one of both, and it was weighed as long ago as the one that was weighed later");
            Fresh.gives("weight", 300, GoodsBoundaries::likeOnes, w -> Fresh.last(merge.on(w), w.weightOf(k)));
            Fresh.gives("value", 1000, GoodsBoundaries::likeOnes, w -> Fresh.last(merge.on(w), w.valueOf(k)));
            Fresh.gives("age", 50, GoodsBoundaries::likeOnes, w -> Fresh.last(merge.on(w), w.ageOf(k)));
            Fresh.gives("30 days, 300 kg", 9, GoodsBoundaries::likeOnes,
                    w -> Fresh.last(merge.on(w), w.allowedWaste(k)));
            Sentences.says("The merged one is closed");
            Fresh.gives("open", 0, GoodsBoundaries::likeOnes,
                    w -> Fresh.last(merge.on(w), Fresh.flag(w.isOpenEntry(1 - k))));
            Fresh.gives("entries", 1, GoodsBoundaries::likeOnes, w -> Fresh.last(merge.on(w), w.entries()));
            Fresh.gives("weight told by totals", 300, GoodsBoundaries::likeOnes,
                    w -> Fresh.last(merge.on(w), w.stockByTotals(2)));
        }
        Sentences.says("the age is the greater one of both");
        Fresh.gives("overdue with the older one", 1, GoodsBoundaries::likeOnes, w -> {
            Fresh.pass(w, 151);
            w.merge(1, 0);
            return Fresh.flag(w.isOverdue(1));
        });
        Sentences.says("Undoable");
        Fresh.saves("merge", GoodsBoundaries::likeOnes, w -> w.merge(0, 1));
        Fresh.saves("merge", GoodsBoundaries::likeOnes, w -> w.merge(1, 0));
        Sentences.says("Returns the weight that the entry has then");
        Fresh.gives("weight", 300, GoodsBoundaries::likeOnes, w -> w.merge(0, 1));
        Sentences.says("`entry`: the number of the entry that stays");
        Fresh.gives("the first", 1, GoodsBoundaries::likeOnes,
                w -> Fresh.last(w.merge(0, 1), Fresh.flag(w.isOpenEntry(0))));
        Sentences.says("`merged`: the number of the entry that is merged into it");
        Fresh.gives("the second", 0, GoodsBoundaries::likeOnes,
                w -> Fresh.last(w.merge(0, 1), Fresh.flag(w.isOpenEntry(1))));
    }

    private static void mergeRefused() {
        Sentences.says("Throws `IndexOutOfBoundsException` if there is no such entry (either of both)");
        Fresh.refusesEach("entry", Check.INDEX, Fresh.NO_ENTRIES, BUSY, (w, entry) -> w.merge(entry, 0));
        Fresh.refusesEach("merged", Check.INDEX, Fresh.NO_ENTRIES, BUSY, (w, entry) -> w.merge(0, entry));
        Fresh.refusesEach("both", Check.INDEX, Fresh.NO_ENTRIES, BUSY, (w, entry) -> w.merge(entry, entry));
        Sentences.says("Throws `IllegalArgumentException` if both are the same");
        Fresh.refuses("the same", Check.ARGUMENT, BUSY, w -> w.merge(0, 0));
        Fresh.refuses("the same, and locked", Check.ARGUMENT, busyAfter(w -> w.lock(0)), w -> w.merge(0, 0));
        Sentences.says("Throws `IllegalStateException` if they are of unlike kinds or in unlike chambers,"
                + " the chamber is locked, one of them is not proved, or the weight would be greater than 999");
        Fresh.refuses("unlike kinds", Check.STATE, BUSY, w -> w.merge(3, 4));
        Fresh.refuses("unlike chambers", Check.STATE, BUSY, w -> w.merge(0, 4));
        Supplier<BondWarehouse> locked = busyAfter(w -> {
            w.move(4, 0);
            w.lock(0);
        });
        Fresh.refuses("locked", Check.STATE, locked, w -> w.merge(0, 4));
        Fresh.refuses("only their chamber is locked", Check.STATE, busyAfter(w -> {
            w.split(3, 9);
            w.open(4);
            w.lock(3);
        }), w -> w.merge(3, 5));
        Fresh.gives("all others are locked", 290, busyAfter(w -> {
            w.split(3, 9);
            w.lock(0);
            w.lock(1);
            w.lock(2);
        }), w -> w.merge(3, 5));
        Supplier<BondWarehouse> unproved = busyAfter(w -> {
            w.move(4, 0);
            Fresh.openBroken(w, 0);
        });
        Fresh.refuses("not proved", Check.STATE, unproved, w -> w.merge(0, 4));
        Supplier<BondWarehouse> half = busyAfter(w -> {
            w.move(4, 0);
            Fresh.openBroken(w, 0);
            w.weigh(0, 60);
        });
        Fresh.refuses("the merged one is not proved", Check.STATE, half, w -> w.merge(0, 4));
        Fresh.refuses("the other one is not proved", Check.STATE, half, w -> w.merge(4, 0));
        Fresh.gives("both are proved", 80, half, w -> Fresh.last(w.weigh(4, 20), w.merge(0, 4)));
        Supplier<BondWarehouse> heavy = () -> Fresh.after(w -> {
            w.enter(0, 500, 1, 0);
            w.enter(0, 500, 1, 0);
            w.enter(0, 499, 1, 0);
        });
        Fresh.refuses("1000 kg", Check.STATE, heavy, w -> w.merge(0, 1));
        Fresh.gives("999 kg", 999, heavy, w -> w.merge(0, 2));
        Fresh.gives("debt does not matter", 80, busyAfter(w -> {
            w.move(4, 0);
            Fresh.makeDebt(w);
        }), w -> w.merge(0, 4));
    }

    private static void weigh() {
        Sentences.promise(9);
        Sentences.says("Weighs an entry");
        Fresh.gives("weight", 30, BUSY, w -> Fresh.last(w.weigh(0, 30), w.weightOf(0)));
        Fresh.gives("value", 300, BUSY, w -> Fresh.last(w.weigh(0, 30), w.valueOf(0)));
        Sentences.says("Undoable");
        Fresh.saves("weigh", BUSY, w -> w.weigh(0, 30));
        Fresh.saves("weigh, all lost", BUSY, w -> w.weigh(3, 0));
        Fresh.saves("weigh with debt", busyAfter(Fresh::makeDebt), w -> w.weigh(3, 0));
        Sentences.says("Returns the crowns that are charged");
        Fresh.gives("for 30 kg", 30, BUSY, w -> w.weigh(0, 30));
        Fresh.gives("told", 30, BUSY, w -> Fresh.last(w.weigh(0, 30), w.charges()));
        Fresh.gives("for nothing", 0, BUSY, w -> w.weigh(0, 60));
        Fresh.gives("more than the account has", 10 + 10 * 454 / 10, busyAfter(w -> w.enter(0, 1, 4640, 2)),
                w -> w.weigh(5, 0));
        Sentences.says("`entry`: the number of the entry");
        Fresh.gives("entry 4", 5, BUSY, w -> w.weigh(4, 0));
        Sentences.says("`found`: the weight that is found, 0 to the weight of the entry");
        Fresh.gives("0", 60, BUSY, w -> w.weigh(0, 0));
        Fresh.gives("closed then", 0, BUSY, w -> Fresh.last(w.weigh(0, 0), Fresh.flag(w.isOpenEntry(0))));
        Fresh.gives("60", 60, BUSY, w -> Fresh.last(w.weigh(0, 60), w.weightOf(0)));
        Sentences.says(NO_ENTRY);
        Fresh.refusesEach("entry", Check.INDEX, Fresh.NO_ENTRIES, BUSY, (w, entry) -> w.weigh(entry, 0));
        Fresh.refuses("and too much", Check.INDEX, BUSY, w -> w.weigh(2, 51));
        Sentences.says("Throws `IllegalArgumentException` if found is out of range");
        Fresh.refusesEach("found", Check.ARGUMENT, Fresh.outside(0, 60), BUSY, (w, found) -> w.weigh(0, found));
        Fresh.refuses("and locked", Check.ARGUMENT, busyAfter(w -> w.lock(0)), w -> w.weigh(0, 61));
        Sentences.says("Throws `IllegalStateException` if its chamber is locked");
        Fresh.refuses("locked", Check.STATE, busyAfter(w -> w.lock(0)), w -> w.weigh(0, 60));
        Fresh.refuses("locked, with a broken seal", Check.STATE, busyAfter(w -> {
            w.lock(0);
            w.breakSeal(0);
        }), w -> w.weigh(0, 60));
        Fresh.gives("debt does not matter", 30, busyAfter(Fresh::makeDebt), w -> w.weigh(0, 30));
    }
}
