import java.util.function.Supplier;

/** Promises 18 to 63, sentence by sentence: queries about entries, chambers, receipts, money and weights. */
final class QueryBoundaries {
    private static final Supplier<BondWarehouse> EMPTY = Fresh::empty;
    private static final Supplier<BondWarehouse> BUSY = Fresh::busy;
    private static final String NO_ENTRY = "Throws `IndexOutOfBoundsException` if there is no such entry";
    private static final String NO_CHAMBER = "Throws `IndexOutOfBoundsException` if there is no such chamber";
    private static final String NO_RECEIPT = "Throws `IndexOutOfBoundsException` if not so many receipts are kept,"
            + " or receipt is negative";
    private static final String NO_KIND = "Throws `IllegalArgumentException` if kind is out of range";

    private QueryBoundaries() {
    }

    static void all() {
        counts();
        isOpenEntry();
        entryAt();
        entries();
        overdue();
        dutyOfPart();
        dutyOf();
        allowedWaste();
        meanDuty();
        chambers();
        room();
        receipts();
        rates();
        money();
        balances();
        sums();
        weights();
        stocks();
    }

    private static Supplier<BondWarehouse> busyAfter(Fresh.Steps steps) {
        return () -> Fresh.busyAfter(steps);
    }

    /** Opens the promise, and looks at its numbers and at what it throws; its queries save nothing. */
    private static void entryQuery(int promise, String says, Fresh.Asking made, int[] due) {
        int[] open = {0, 1, 3, 4};
        Sentences.promise(promise);
        Sentences.says(NO_ENTRY);
        Fresh.refusesEach("a query", Check.INDEX, Fresh.NO_ENTRIES, BUSY, made);
        Fresh.refuses("without entries", Check.INDEX, EMPTY, w -> made.on(w, 0));
        Fresh.changesNothing("a query", BUSY, w -> made.on(w, 0));
        Sentences.says("`entry`: its number");
        Fresh.gives("the first", due[0], BUSY, w -> made.on(w, 0));
        Fresh.gives("the last", due[3], BUSY, w -> made.on(w, 4));
        Sentences.says(says);
        for (int i = 0; i < open.length; i++) {
            int entry = open[i];
            Fresh.gives("entry " + entry, due[i], BUSY, w -> made.on(w, entry));
        }
    }

    private static void chamberQuery(int promise, String says, Fresh.Asking made, int[] due) {
        Sentences.promise(promise);
        Sentences.says(NO_CHAMBER);
        Fresh.refusesEach("a query", Check.INDEX, Fresh.NO_CHAMBERS, BUSY, made);
        Fresh.changesNothing("a query", BUSY, w -> made.on(w, 4));
        Sentences.says("`chamber`: 0 to 4");
        Fresh.gives("0", due[0], BUSY, w -> made.on(w, 0));
        Fresh.gives("4", due[4], BUSY, w -> made.on(w, 4));
        Sentences.says(says);
        for (int chamber = 0; chamber < 5; chamber++) {
            int c = chamber;
            Fresh.gives("chamber " + c, due[c], BUSY, w -> made.on(w, c));
        }
    }

    private static void receiptQuery(int promise, String says, Fresh.Asking made, int[] due) {
        Sentences.promise(promise);
        Sentences.says(NO_RECEIPT);
        Fresh.refusesEach("a query", Check.INDEX, Fresh.NO_RECEIPTS, BUSY, made);
        Fresh.refuses("without receipts", Check.INDEX, EMPTY, w -> made.on(w, 0));
        Fresh.refuses("the thirteenth", Check.INDEX, QueryBoundaries::thirteen, w -> made.on(w, 12));
        Fresh.changesNothing("a query", BUSY, w -> made.on(w, 1));
        Sentences.says("`receipt`: 0 for the latest receipt, and so on");
        Fresh.gives("the latest", due[0], BUSY, w -> made.on(w, 0));
        Fresh.gives("the one before", due[1], BUSY, w -> made.on(w, 1));
        Fresh.gives("the latest of thirteen", due[2], QueryBoundaries::thirteen, w -> made.on(w, 0));
        Fresh.gives("the twelfth", due[3], QueryBoundaries::thirteen, w -> made.on(w, 11));
        Sentences.says(says);
        Fresh.gives("after a part went abroad", due[4], busyAfter(w -> w.drawBack(1, 11)), w -> made.on(w, 1));
        Fresh.gives("after all went abroad", due[5], busyAfter(w -> w.drawBack(1, 40)), w -> made.on(w, 1));
    }

    /** Thirteen receipts of the kinds 1 and 0 in turn, of 1 to 13 kg, one a day; the first one is not kept. */
    private static BondWarehouse thirteen() {
        return Fresh.after(w -> {
            w.deposit(9999);
            w.enter(0, 100, 1000, 0);
            w.enter(1, 100, 1000, 0);
            for (int i = 1; i <= 13; i++) {
                w.withdraw(i % 2, i);
                w.pass(1);
            }
        });
    }

    private static void kindQuery(int promise, String says, Fresh.Asking made, int[] due) {
        Sentences.promise(promise);
        Sentences.says(NO_KIND);
        Fresh.refusesEach("a query", Check.ARGUMENT, Fresh.NO_KINDS, BUSY, made);
        Fresh.changesNothing("a query", BUSY, w -> made.on(w, 0));
        Sentences.says("`kind`: 0 to 5");
        Fresh.gives("0", due[0], BUSY, w -> made.on(w, 0));
        Fresh.gives("5", due[5], BUSY, w -> made.on(w, 5));
        Sentences.says(says);
        for (int kind = 0; kind < 6; kind++) {
            int k = kind;
            Fresh.gives("kind " + k, due[k], BUSY, w -> made.on(w, k));
        }
    }

    private static void counts() {
        Sentences.promise(18);
        Sentences.says("Returns the day");
        Fresh.gives("at first", 0, EMPTY, BondWarehouse::day);
        Fresh.gives("then", 16, BUSY, BondWarehouse::day);
        Fresh.gives("the last", 9999, () -> Fresh.after(w -> Fresh.pass(w, 9999)), BondWarehouse::day);
        Sentences.promise(19);
        Sentences.says("Returns the number of open entries");
        Fresh.gives("none", 0, EMPTY, BondWarehouse::entries);
        Fresh.gives("one is closed", 4, BUSY, BondWarehouse::entries);
        Fresh.gives("one was split", 5, BUSY, w -> Fresh.last(w.split(0, 1), w.entries()));
        Fresh.gives("two were merged", 4, BUSY, w -> Fresh.last(w.split(0, 1), w.merge(0, 5), w.entries()));
        Sentences.promise(20);
        Sentences.says("Returns the number of entries that were made so far");
        Fresh.gives("none", 0, EMPTY, BondWarehouse::entriesMade);
        Fresh.gives("one is closed", 5, BUSY, BondWarehouse::entriesMade);
        Fresh.gives("one was split", 6, BUSY, w -> Fresh.last(w.split(0, 1), w.entriesMade()));
        Fresh.gives("two were merged", 6, BUSY, w -> Fresh.last(w.split(0, 1), w.merge(0, 5), w.entriesMade()));
        Fresh.gives("that is undone", 5, BUSY, w -> Fresh.last(w.split(0, 1), w.undo(), w.entriesMade()));
    }

    private static void isOpenEntry() {
        Sentences.promise(21);
        Sentences.says("Tells whether a number is that of an open entry");
        for (int entry : new int[] {0, 1, 3, 4}) {
            Fresh.gives("open " + entry, 1, BUSY, w -> Fresh.flag(w.isOpenEntry(entry)));
        }
        Fresh.gives("none is there", 0, EMPTY, w -> Fresh.flag(w.isOpenEntry(0)));
        Sentences.says("`number`: any number");
        for (int number : Fresh.NO_ENTRIES) {
            Fresh.gives("open " + number, 0, BUSY, w -> Fresh.flag(w.isOpenEntry(number)));
        }
    }

    private static void entryAt() {
        Sentences.promise(22);
        Sentences.says("Returns the number of an open entry");
        Fresh.gives("behind the closed one", 3, BUSY, w -> w.entryAt(2));
        Sentences.says("`rank`: 0 for the one with the least number, and so on");
        int[] due = {0, 1, 3, 4};
        for (int rank = 0; rank < due.length; rank++) {
            int r = rank;
            Fresh.gives("rank " + r, due[r], BUSY, w -> w.entryAt(r));
        }
        Fresh.gives("the first is closed", 1, BUSY, w -> Fresh.last(w.weigh(0, 0), w.entryAt(0)));
        Fresh.gives("the last is closed", 3, BUSY, w -> Fresh.last(w.weigh(4, 0), w.entryAt(2)));
        Fresh.gives("a new one", 5, BUSY, w -> Fresh.last(w.split(0, 1), w.entryAt(4)));
        Supplier<BondWarehouse> full = () -> Fresh.after(w -> {
            for (int i = 0; i < 16; i++) {
                w.enter(0, 1, 1, 0);
            }
        });
        Fresh.gives("the sixteenth", 15, full, w -> w.entryAt(15));
        Sentences.says("Throws `IndexOutOfBoundsException` if there are not so many, or rank is negative");
        Fresh.refusesEach("rank", Check.INDEX, Fresh.outside(0, 3), BUSY, BondWarehouse::entryAt);
        Fresh.refusesEach("rank of 16", Check.INDEX, Fresh.outside(0, 15), full, BondWarehouse::entryAt);
        Fresh.refuses("none is there", Check.INDEX, EMPTY, w -> w.entryAt(0));
        Fresh.refuses("one less is there", Check.INDEX, busyAfter(w -> w.weigh(4, 0)), w -> w.entryAt(3));
    }

    private static void entries() {
        entryQuery(23, "Returns the kind of an entry", BondWarehouse::kindOf, new int[] {0, 1, 4, 0});
        entryQuery(24, "Returns the weight of an entry", BondWarehouse::weightOf, new int[] {60, 200, 290, 20});
        entryQuery(25, "Returns the value of an entry", BondWarehouse::valueOf, new int[] {600, 900, 580, 50});
        entryQuery(26, "Returns the chamber of an entry", BondWarehouse::chamberOf, new int[] {0, 1, 3, 3});
        entryQuery(27, "Returns the age of an entry", BondWarehouse::ageOf, new int[] {16, 16, 16, 16});
        entryQuery(28, "Tells whether an entry is proved", (w, entry) -> Fresh.flag(w.isProved(entry)),
                new int[] {1, 1, 1, 1});
        Fresh.gives("not proved", 0, busyAfter(w -> Fresh.openBroken(w, 3)), w -> Fresh.flag(w.isProved(4)));
        Fresh.gives("elsewhere", 1, busyAfter(w -> Fresh.openBroken(w, 3)), w -> Fresh.flag(w.isProved(0)));
    }

    private static void overdue() {
        entryQuery(29, "Tells whether an entry is overdue", (w, entry) -> Fresh.flag(w.isOverdue(entry)),
                new int[] {0, 0, 0, 0});
        Fresh.gives("200 days", 0, busyAfter(w -> Fresh.pass(w, 184)), w -> Fresh.flag(w.isOverdue(0)));
        Fresh.gives("201 days", 1, busyAfter(w -> Fresh.pass(w, 185)), w -> Fresh.flag(w.isOverdue(0)));
    }

    private static void dutyOfPart() {
        Sentences.promise(30);
        Sentences.says("Returns the duty of a part of an entry");
        Fresh.gives("nearly all", 59, BUSY, w -> w.dutyOfPart(0, 59));
        Fresh.gives("0.8 and 0.1 crowns", 2, BUSY, w -> w.dutyOfPart(1, 1));
        Sentences.says("`entry`: its number");
        Fresh.gives("entry 4", 5, BUSY, w -> w.dutyOfPart(4, 20));
        Sentences.says("`weight`: the weight of the part, 1 to the weight of the entry");
        Fresh.gives("1", 1, BUSY, w -> w.dutyOfPart(0, 1));
        Fresh.gives("60", 60, BUSY, w -> w.dutyOfPart(0, 60));
        Fresh.gives("999", 1, () -> Fresh.after(w -> w.enter(0, 999, 1, 0)), w -> w.dutyOfPart(0, 999));
        Sentences.says(NO_ENTRY);
        Fresh.refusesEach("a query", Check.INDEX, Fresh.NO_ENTRIES, BUSY, (w, entry) -> w.dutyOfPart(entry, 1));
        Fresh.refuses("and no weight", Check.INDEX, BUSY, w -> w.dutyOfPart(2, 0));
        Sentences.says("Throws `IllegalArgumentException` if weight is out of range");
        Fresh.refusesEach("weight", Check.ARGUMENT, Fresh.outside(1, 60), BUSY, (w, weight) -> w.dutyOfPart(0, weight));
        Fresh.refuses("the weight that it had", Check.ARGUMENT, BUSY, w -> w.dutyOfPart(0, 100));
    }

    private static void dutyOf() {
        entryQuery(31, "Returns the duty of an entry as a whole", BondWarehouse::dutyOf, new int[] {60, 200, 174, 5});
        Fresh.gives("200 days", 174, busyAfter(w -> Fresh.pass(w, 184)), w -> w.dutyOf(3));
        Fresh.gives("201 days", 192, busyAfter(w -> Fresh.pass(w, 185)), w -> w.dutyOf(3));
        Fresh.gives("not proved", 174, busyAfter(w -> Fresh.openBroken(w, 3)), w -> w.dutyOf(3));
    }

    private static void allowedWaste() {
        entryQuery(32, "Returns the waste that is allowed for an entry", BondWarehouse::allowedWaste,
                new int[] {0, 1, 5, 0});
        Fresh.gives("19 days", 5, busyAfter(w -> w.pass(3)), w -> w.allowedWaste(3));
        Fresh.gives("20 days", 11, busyAfter(w -> w.pass(4)), w -> w.allowedWaste(3));
        Fresh.gives("490 days", 284, busyAfter(w -> Fresh.pass(w, 474)), w -> w.allowedWaste(3));
        Fresh.gives("500 days", 290, busyAfter(w -> Fresh.pass(w, 484)), w -> w.allowedWaste(3));
        Fresh.gives("510 days", 290, busyAfter(w -> Fresh.pass(w, 494)), w -> w.allowedWaste(3));
    }

    private static void meanDuty() {
        Sentences.promise(33);
        Sentences.says("Returns the mean duty of the open entries: the duty at stake, as a double,"
                + " divided by their number, as a double");
        BondWarehouse busy = Fresh.busy();
        Check.isDouble("four", 439.0 / 4.0, busy::meanDuty);
        busy.weigh(1, 0);
        Check.isDouble("three", 239.0 / 3.0, busy::meanDuty);
        BondWarehouse one = Fresh.after(w -> w.enter(0, 1, 101, 0));
        Check.isDouble("one", 11.0, one::meanDuty);
        BondWarehouse free = Fresh.after(w -> {
            w.setRateByValue(0, 0);
            w.enter(0, 1, 1, 0);
        });
        Check.isDouble("one without duty", 0.0, free::meanDuty);
        Sentences.says("0.0 without any");
        BondWarehouse empty = new BondWarehouse();
        Check.isDouble("none", 0.0, empty::meanDuty);
        free.sendAbroad(0, 1);
        Check.isDouble("none any more", 0.0, free::meanDuty);
    }

    private static void chambers() {
        chamberQuery(34, "Tells whether a chamber is locked", (w, chamber) -> Fresh.flag(w.isLocked(chamber)),
                new int[] {0, 0, 0, 0, 1});
        Fresh.gives("with a broken seal", 1, busyAfter(w -> w.breakSeal(4)), w -> Fresh.flag(w.isLocked(4)));
        Fresh.gives("opened", 0, busyAfter(w -> w.open(4)), w -> Fresh.flag(w.isLocked(4)));
        chamberQuery(35, "Returns the seal of a chamber", BondWarehouse::sealOf, new int[] {-1, -1, -1, -1, 1});
        Fresh.gives("the broken one", 1, busyAfter(w -> w.breakSeal(4)), w -> w.sealOf(4));
        Sentences.says("NONE if the chamber is open");
        Fresh.gives("open", BondWarehouse.NONE, BUSY, w -> w.sealOf(0));
        Fresh.gives("opened", BondWarehouse.NONE, busyAfter(w -> w.open(4)), w -> w.sealOf(4));
        chamberQuery(36, "Tells whether the seal of a chamber is broken",
                (w, chamber) -> Fresh.flag(w.isSealBroken(chamber)), new int[] {0, 0, 0, 0, 0});
        Sentences.says("Returns true if the chamber is locked, and its seal is broken");
        Fresh.gives("broken", 1, busyAfter(w -> w.breakSeal(4)), w -> Fresh.flag(w.isSealBroken(4)));
        Fresh.gives("no other", 0, busyAfter(w -> w.breakSeal(4)), w -> Fresh.flag(w.isSealBroken(3)));
        Fresh.gives("opened", 0, busyAfter(w -> Fresh.openBroken(w, 3)), w -> Fresh.flag(w.isSealBroken(3)));
        Fresh.gives("locked again", 0, busyAfter(w -> Fresh.openBroken(w, 3)),
                w -> Fresh.last(w.lock(3), Fresh.flag(w.isSealBroken(3))));
        chamberQuery(37, "Returns the number of entries in a chamber", BondWarehouse::entriesIn,
                new int[] {1, 1, 0, 2, 0});
        Fresh.gives("all 16", 16, () -> Fresh.after(w -> {
            for (int i = 0; i < 16; i++) {
                w.enter(0, 1, 1, 4);
            }
        }), w -> w.entriesIn(4));
    }

    private static void room() {
        chamberQuery(38, "Returns the room that is left in a chamber", BondWarehouse::roomIn,
                new int[] {1940, 1800, 2000, 1690, 2000});
        Sentences.says("Returns 2000 minus the weight of all entries in it");
        Supplier<BondWarehouse> full = () -> Fresh.after(w -> {
            w.enter(0, 999, 1, 0);
            w.enter(0, 999, 1, 0);
            w.enter(0, 2, 1, 0);
        });
        Fresh.gives("none", 0, full, w -> w.roomIn(0));
        Fresh.gives("a part is gone", 1, full, w -> Fresh.last(w.sendAbroad(0, 1), w.roomIn(0)));
        Fresh.gives("another one", 2000, full, w -> w.roomIn(1));
    }

    private static void receipts() {
        Sentences.promise(39);
        Sentences.says("Returns the number of receipts that are kept");
        Fresh.gives("none", 0, EMPTY, BondWarehouse::receipts);
        Fresh.gives("two", 2, BUSY, BondWarehouse::receipts);
        Fresh.gives("twelve of thirteen", 12, QueryBoundaries::thirteen, BondWarehouse::receipts);
        Fresh.gives("without weight", 2, busyAfter(w -> w.drawBack(1, 40)), BondWarehouse::receipts);
        receiptQuery(40, "Returns the kind of the goods of a receipt", BondWarehouse::receiptKind,
                new int[] {4, 0, 1, 0, 0, 0});
        receiptQuery(41, "Returns the weight that a receipt has still", BondWarehouse::receiptWeight,
                new int[] {10, 40, 13, 2, 29, 0});
        // 13 kg of kind 1: 26 crowns by value, and 2 by weight
        receiptQuery(42, "Returns the duty that a receipt has still", BondWarehouse::receiptDuty,
                new int[] {6, 40, 28, 2, 29, 0});
        receiptQuery(43, "Returns the days since a receipt was made", BondWarehouse::receiptAge,
                new int[] {1, 16, 1, 12, 16, 16});
        Fresh.gives("on its day", 0, BUSY, w -> Fresh.last(w.withdraw(0, 1), w.receiptAge(0)));
    }

    private static void rates() {
        kindQuery(44, "Returns the rate by value of a kind", BondWarehouse::rateByValue,
                new int[] {10, 20, 5, 0, 30, 15});
        kindQuery(45, "Returns the rate by weight of a kind", BondWarehouse::rateByWeight,
                new int[] {0, 10, 25, 40, 0, 5});
    }

    private static void money() {
        Sentences.promise(46);
        Sentences.says("Returns the bond");
        Fresh.gives("at first", 5000, EMPTY, BondWarehouse::bond);
        Fresh.gives("the least", 0, () -> Fresh.after(w -> w.setBond(0)), BondWarehouse::bond);
        Fresh.gives("the most", 50000, () -> Fresh.after(w -> w.setBond(50000)), BondWarehouse::bond);
        Sentences.promise(47);
        Sentences.says("Returns the duty at stake");
        Fresh.gives("none", 0, EMPTY, BondWarehouse::dutyAtStake);
        Fresh.gives("four entries", 439, BUSY, BondWarehouse::dutyAtStake);
        Fresh.gives("200 days", 439, busyAfter(w -> Fresh.pass(w, 184)), BondWarehouse::dutyAtStake);
        Fresh.gives("201 days", 484, busyAfter(w -> Fresh.pass(w, 185)), BondWarehouse::dutyAtStake);
        Fresh.gives("over the bond", 360 + 560 + 348 + 30, BUSY, w -> {
            w.setBond(439);
            w.setRateByValue(0, 60);
            w.setRateByValue(1, 60);
            w.setRateByValue(4, 60);
            return w.dutyAtStake();
        });
        Sentences.promise(48);
        Sentences.says("Returns the account");
        Fresh.gives("empty", 0, EMPTY, BondWarehouse::account);
        Fresh.gives("then", 454, BUSY, BondWarehouse::account);
        Fresh.gives("never below zero", 0, busyAfter(Fresh::makeDebt), BondWarehouse::account);
        Fresh.gives("at the brim", 99999, QueryBoundaries::rich, BondWarehouse::account);
        Sentences.promise(49);
        Sentences.says("Returns the debt");
        Fresh.gives("none", 0, EMPTY, BondWarehouse::debt);
        Fresh.gives("none with an account", 0, BUSY, BondWarehouse::debt);
        Fresh.gives("ten crowns", 10, busyAfter(Fresh::makeDebt), BondWarehouse::debt);
        Fresh.gives("paid", 0, busyAfter(Fresh::makeDebt), w -> Fresh.last(w.deposit(10), w.debt()));
    }

    private static BondWarehouse rich() {
        return Fresh.after(w -> {
            for (int i = 0; i < 10; i++) {
                w.deposit(9999);
            }
            w.deposit(9);
        });
    }

    private static void balances() {
        for (int promise = 50; promise <= 51; promise++) {
            Fresh.Call balance = promise == 50 ? BondWarehouse::balance : BondWarehouse::balanceByTotals;
            Sentences.promise(promise);
            Sentences.says("Returns the account minus the debt");
            Fresh.gives("nothing", 0, EMPTY, balance);
            Fresh.gives("an account", 454, BUSY, balance);
            Fresh.gives("a debt", -10, busyAfter(Fresh::makeDebt), balance);
            Fresh.gives("after a drawback", 490, busyAfter(w -> w.drawBack(1, 40)), balance);
            Fresh.gives("neither", 0, busyAfter(Fresh::makeDebt), w -> Fresh.last(w.deposit(10), balance.on(w)));
            Fresh.gives("both after a deposit", 1, busyAfter(Fresh::makeDebt),
                    w -> Fresh.last(w.deposit(11), balance.on(w)));
            Fresh.gives("at the brim", 99999, QueryBoundaries::rich, balance);
        }
        Sentences.says("told by totals: all deposits, plus all drawbacks, minus all duties,"
                + " minus all charges (the same)");
        Supplier<BondWarehouse> all = busyAfter(w -> {
            w.drawBack(1, 40);
            w.weigh(0, 30);
            Fresh.makeDebt(w);
            w.deposit(7);
        });
        Fresh.gives("the same", -3, all, BondWarehouse::balanceByTotals);
        Fresh.gives("all of them", -3, all, w -> w.deposits() + w.drawbacks() - w.dutiesPaid() - w.charges());
        Fresh.gives("the other way", -3, all, BondWarehouse::balance);
    }

    private static void sums() {
        Sentences.promise(52);
        Sentences.says("Returns the sum of all deposits so far");
        Fresh.gives("none", 0, EMPTY, BondWarehouse::deposits);
        Fresh.gives("two, the debt paid among them", 520, busyAfter(Fresh::makeDebt),
                w -> Fresh.last(w.deposit(20), w.deposits()));
        Fresh.gives("a refused one", 99999, QueryBoundaries::rich, w -> {
            Check.refuses("one over", Check.STATE, () -> w.deposit(1));
            return w.deposits();
        });
        Sentences.promise(53);
        Sentences.says("Returns the sum of all duties that were paid for goods that left into the country so far");
        Fresh.gives("none", 0, EMPTY, BondWarehouse::dutiesPaid);
        Fresh.gives("two", 46, BUSY, BondWarehouse::dutiesPaid);
        Fresh.gives("no charge, nothing paid back", 46, busyAfter(w -> {
            w.weigh(0, 0);
            w.drawBack(1, 40);
        }), BondWarehouse::dutiesPaid);
        Sentences.promise(54);
        Sentences.says("Returns the sum of all charges so far");
        Fresh.gives("none", 0, BUSY, BondWarehouse::charges);
        Fresh.gives("two, one of them not paid", 60 + 404, BUSY, w -> {
            w.weigh(0, 0);
            Fresh.makeDebt(w);
            return w.charges();
        });
        Sentences.promise(55);
        Sentences.says("Returns the sum of all crowns that were paid back so far");
        Fresh.gives("none", 0, BUSY, BondWarehouse::drawbacks);
        Fresh.gives("two", 4 + 5, BUSY, w -> Fresh.last(w.drawBack(1, 5), w.drawBack(0, 10), w.drawbacks()));
    }

    private static void weights() {
        Fresh.Steps steps = w -> {
            w.drawBack(1, 40);
            w.drawBack(0, 3);
            w.sendAbroad(4, 1);
            w.weigh(3, 280);
            w.split(1, 7);
            w.merge(1, 5);
        };
        // the same once more, so that sums are told and not the last weight
        Fresh.Steps more = w -> {
            steps.on(w);
            w.enter(0, 30, 30, 2);
            w.withdraw(6, 20);
            w.drawBack(0, 15);
            w.sendAbroad(6, 2);
            w.pass(10);
            w.weigh(3, 273);
        };
        Fresh.Asking[] queries = {BondWarehouse::entered, BondWarehouse::withdrawn, BondWarehouse::sentAbroad,
            BondWarehouse::wasted, BondWarehouse::lost, BondWarehouse::drawnBack};
        String[] says = {"Returns the weight of a kind that was entered so far",
            "Returns the weight of a kind that left into the country so far",
            "Returns the weight of a kind that left abroad out of the warehouse so far",
            "Returns the weight of a kind that was waste so far", "Returns the weight of a kind that was lost so far",
            "Returns the weight of a kind that went abroad by drawBack() so far"};
        int[][] before = {{120, 200, 50, 0, 300, 0}, {40, 0, 0, 0, 10, 0}, {0, 0, 50, 0, 0, 0}, new int[6], new int[6],
            new int[6]};
        int[][] last = {{150, 200, 50, 0, 300, 0}, {60, 0, 0, 0, 10, 0}, {3, 0, 50, 0, 0, 0}, {0, 0, 0, 0, 10, 0},
            {0, 0, 0, 0, 7, 0}, {55, 0, 0, 0, 3, 0}};
        int[][] after = {{120, 200, 50, 0, 300, 0}, {40, 0, 0, 0, 10, 0}, {1, 0, 50, 0, 0, 0}, {0, 0, 0, 0, 5, 0},
            {0, 0, 0, 0, 5, 0}, {40, 0, 0, 0, 3, 0}};
        for (int i = 0; i < queries.length; i++) {
            kindQuery(56 + i, says[i], queries[i], before[i]);
            for (int kind = 0; kind < 6; kind++) {
                int k = kind;
                Fresh.Asking query = queries[i];
                Fresh.gives("nothing of kind " + k, 0, EMPTY, w -> query.on(w, k));
                Fresh.gives("kind " + k + " then", after[i][k], busyAfter(steps), w -> query.on(w, k));
                Fresh.gives("kind " + k + " at last", last[i][k], busyAfter(more), w -> query.on(w, k));
            }
        }
    }

    private static void stocks() {
        int[] due = {80, 200, 0, 0, 290, 0};
        kindQuery(62, "Returns the stock of a kind, told entry by entry", BondWarehouse::stockByEntries, due);
        Sentences.says("Returns the weight of all open entries of this kind");
        Fresh.gives("one is closed", 60, BUSY, w -> Fresh.last(w.sendAbroad(4, 20), w.stockByEntries(0)));
        kindQuery(63, "Returns the stock of a kind, told by totals: what was entered,"
                + " minus what was withdrawn, sent abroad, wasted and lost (the same)",
                BondWarehouse::stockByTotals, due);
        Fresh.gives("one is closed", 60, BUSY, w -> Fresh.last(w.sendAbroad(4, 20), w.stockByTotals(0)));
        Fresh.gives("some is wasted and lost", 280, BUSY, w -> Fresh.last(w.weigh(3, 280), w.stockByTotals(4)));
        Fresh.gives("some is withdrawn", 281, BUSY, w -> Fresh.last(w.withdraw(3, 9), w.stockByTotals(4)));
        Fresh.gives("what is drawn back was gone before", 290, BUSY,
                w -> Fresh.last(w.drawBack(0, 9), w.stockByTotals(4)));
        for (int kind = 0; kind < 6; kind++) {
            int k = kind;
            Fresh.gives("nothing of kind " + k, 0, EMPTY, w -> w.stockByTotals(k) + w.stockByEntries(k));
        }
    }
}
