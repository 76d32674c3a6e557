import java.util.function.Supplier;

/** Promises 10 to 17, sentence by sentence: chambers, money, rates, time. */
final class ChamberMoneyBoundaries {
    private static final Supplier<BondWarehouse> EMPTY = Fresh::empty;
    private static final Supplier<BondWarehouse> BUSY = Fresh::busy;
    private static final String NO_CHAMBER = "Throws `IndexOutOfBoundsException` if there is no such chamber";
    private static final String NO_ARGUMENT = "Throws `IllegalArgumentException` if an argument is out of range";

    private ChamberMoneyBoundaries() {
    }

    static void all() {
        lock();
        open();
        breakSeal();
        deposit();
        depositRefused();
        setBond();
        setRateByValue();
        setRateByWeight();
        pass();
        passRefused();
    }

    private static Supplier<BondWarehouse> busyAfter(Fresh.Steps steps) {
        return () -> Fresh.busyAfter(steps);
    }

    /** The first and the last chamber are taken, and those beside them are not. */
    private static void chamberNumber(String call, Supplier<BondWarehouse> make, Fresh.Asking made) {
        Sentences.says("`chamber`: 0 to 4");
        Fresh.gives(call + " 0", 1, make, w -> Fresh.flag(made.on(w, 0) >= 0));
        Fresh.gives(call + " 4", 1, make, w -> Fresh.flag(made.on(w, 4) >= 0));
        Sentences.says(NO_CHAMBER);
        Fresh.refusesEach(call, Check.INDEX, Fresh.NO_CHAMBERS, make, made);
    }

    private static BondWarehouse allLocked() {
        return Fresh.busyAfter(w -> {
            for (int chamber = 0; chamber < 4; chamber++) {
                w.lock(chamber);
            }
        });
    }

    private static void lock() {
        Sentences.promise(10);
        Sentences.says("Locks a chamber with a new seal");
        Fresh.gives("locked", 1, BUSY, w -> Fresh.last(w.lock(2), Fresh.flag(w.isLocked(2))));
        Fresh.gives("no other", 0, BUSY, w -> Fresh.last(w.lock(2), Fresh.flag(w.isLocked(1) || w.isLocked(3))));
        Fresh.gives("not broken", 0, BUSY, w -> Fresh.last(w.lock(2), Fresh.flag(w.isSealBroken(2))));
        Sentences.says("Undoable");
        Fresh.saves("lock", BUSY, w -> w.lock(0));
        Fresh.gives("the number is used again after undo", 2, BUSY, w -> Fresh.last(w.lock(0), w.undo(), w.lock(1)));
        Sentences.says("Returns the number of the seal");
        Fresh.gives("the first", 1, EMPTY, w -> w.lock(0));
        Fresh.gives("the second", 2, BUSY, w -> w.lock(0));
        Fresh.gives("after one that is gone", 2, BUSY, w -> Fresh.last(w.open(4), w.lock(4)));
        chamberNumber("lock", EMPTY, BondWarehouse::lock);
        Sentences.says("Throws `IllegalStateException` if it is locked");
        Fresh.refuses("locked", Check.STATE, BUSY, w -> w.lock(4));
        Fresh.refuses("locked, with a broken seal", Check.STATE, busyAfter(w -> w.breakSeal(4)), w -> w.lock(4));
        Fresh.gives("opened", 2, busyAfter(w -> w.open(4)), w -> w.lock(4));
    }

    private static void open() {
        Sentences.promise(11);
        Sentences.says("Opens a chamber");
        Fresh.gives("locked", 0, BUSY, w -> Fresh.last(w.open(4), Fresh.flag(w.isLocked(4))));
        Sentences.says("Undoable");
        Fresh.saves("open", BUSY, w -> w.open(4));
        Fresh.saves("open, with a broken seal", busyAfter(w -> {
            w.lock(3);
            w.breakSeal(3);
        }), w -> w.open(3));
        Sentences.says("Returns the number of entries in it that are not proved then");
        Supplier<BondWarehouse> locked = busyAfter(w -> w.lock(3));
        Fresh.gives("no entries", 0, busyAfter(w -> w.breakSeal(4)), w -> w.open(4));
        Fresh.gives("a whole seal", 0, locked, w -> w.open(3));
        Fresh.gives("a broken seal", 2, locked, w -> Fresh.last(w.breakSeal(3), w.open(3)));
        Fresh.gives("one of them was not proved before", 1, locked, w -> {
            w.breakSeal(3);
            w.open(3);
            w.weigh(3, 290);
            w.lock(3);
            return w.open(3);
        });
        Fresh.gives("a later one is proved", 2, locked, w -> {
            w.breakSeal(3);
            w.open(3);
            w.enter(0, 1, 1, 3);
            w.lock(3);
            return w.open(3);
        });
        Supplier<BondWarehouse> full = () -> Fresh.after(w -> {
            for (int i = 0; i < 16; i++) {
                w.enter(0, 1, 1, 0);
            }
            w.lock(0);
            w.breakSeal(0);
        });
        Fresh.gives("all 16", 16, full, w -> w.open(0));
        chamberNumber("open", ChamberMoneyBoundaries::allLocked, BondWarehouse::open);
        Sentences.says("Throws `IllegalStateException` if it is open");
        Fresh.refuses("open", Check.STATE, BUSY, w -> w.open(0));
        Fresh.refuses("opened just now", Check.STATE, busyAfter(w -> w.open(4)), w -> w.open(4));
    }

    private static void breakSeal() {
        Sentences.promise(12);
        Sentences.says("Somebody breaks the seal of a chamber");
        Fresh.gives("broken", 1, BUSY, w -> Fresh.last(w.breakSeal(4), Fresh.flag(w.isSealBroken(4))));
        Fresh.gives("still locked", 1, BUSY, w -> Fresh.last(w.breakSeal(4), Fresh.flag(w.isLocked(4))));
        Fresh.gives("all are proved still", 1, busyAfter(w -> w.lock(0)),
                w -> Fresh.last(w.breakSeal(0), Fresh.flag(w.isProved(0))));
        Sentences.says("Undoable");
        Fresh.saves("breakSeal", BUSY, w -> w.breakSeal(4));
        Sentences.says("Returns the number of the seal");
        Fresh.gives("the first", 1, BUSY, w -> w.breakSeal(4));
        Fresh.gives("the third", 3, busyAfter(w -> w.lock(0)), w -> Fresh.last(w.lock(1), w.breakSeal(1)));
        chamberNumber("breakSeal", ChamberMoneyBoundaries::allLocked, BondWarehouse::breakSeal);
        Sentences.says("Throws `IllegalStateException` if it is open, or its seal is broken already");
        Fresh.refuses("open", Check.STATE, BUSY, w -> w.breakSeal(0));
        Fresh.refuses("broken already", Check.STATE, busyAfter(w -> w.breakSeal(4)), w -> w.breakSeal(4));
        Fresh.refuses("opened, its seal was broken", Check.STATE, busyAfter(w -> Fresh.openBroken(w, 0)),
                w -> w.breakSeal(0));
        Fresh.gives("a new seal", 3, busyAfter(w -> Fresh.openBroken(w, 0)),
                w -> Fresh.last(w.lock(0), w.breakSeal(0)));
    }

    private static void deposit() {
        Sentences.promise(13);
        Sentences.says("Money is paid in: first the debt is paid with it, the rest comes into the account");
        // 100 crowns of debt
        Supplier<BondWarehouse> indebted = () -> Fresh.after(w -> {
            w.enter(0, 10, 1000, 0);
            w.weigh(0, 0);
        });
        int[] amounts = {1, 99, 100, 101, 9999};
        int[] debts = {99, 1, 0, 0, 0};
        int[] accounts = {0, 0, 0, 1, 9899};
        for (int i = 0; i < amounts.length; i++) {
            int amount = amounts[i];
            Fresh.gives("debt after " + amount, debts[i], indebted, w -> Fresh.last(w.deposit(amount), w.debt()));
            Fresh.gives("account after " + amount, accounts[i], indebted,
                    w -> Fresh.last(w.deposit(amount), w.account()));
            Fresh.gives("deposits after " + amount, amount, indebted, w -> Fresh.last(w.deposit(amount), w.deposits()));
        }
        Sentences.says("Undoable");
        Fresh.saves("deposit", BUSY, w -> w.deposit(1));
        Fresh.saves("deposit with debt", indebted, w -> w.deposit(150));
        Sentences.says("Returns the account then");
        Fresh.gives("with an account", 455, BUSY, w -> w.deposit(1));
        Fresh.gives("with more debt", 0, indebted, w -> w.deposit(99));
        Fresh.gives("with as much debt", 0, indebted, w -> w.deposit(100));
        Fresh.gives("with less debt", 1, indebted, w -> w.deposit(101));
        Sentences.says("`amount`: 1 to 9999");
        Fresh.gives("1", 1, EMPTY, w -> w.deposit(1));
        Fresh.gives("9999", 9999, EMPTY, w -> w.deposit(9999));
    }

    private static void depositRefused() {
        Sentences.says("Throws `IllegalArgumentException` if amount is out of range");
        Fresh.refusesEach("amount", Check.ARGUMENT, Fresh.outside(1, 9999), BUSY, BondWarehouse::deposit);
        Sentences.says("Throws `IllegalStateException` if the account would be greater than 99999");
        Supplier<BondWarehouse> rich = () -> Fresh.after(w -> {
            for (int i = 0; i < 10; i++) {
                w.deposit(9999);
            }
            w.deposit(4);
        });
        Fresh.gives("99999", 99999, rich, w -> w.deposit(5));
        Fresh.refuses("100000", Check.STATE, rich, w -> w.deposit(6));
        Fresh.refuses("the most", Check.STATE, rich, w -> w.deposit(9999));
        Fresh.refuses("one over", Check.STATE, () -> {
            BondWarehouse w = rich.get();
            w.deposit(5);
            return w;
        }, w -> w.deposit(1));
        Fresh.refuses("argument first", Check.ARGUMENT, rich, w -> w.deposit(10000));
        // so much debt is paid first that twelve deposits of the most do not fill the account
        Supplier<BondWarehouse> ruined = () -> Fresh.after(w -> {
            for (int i = 0; i < 16; i++) {
                w.enter(3, 1, 9999, 0);
            }
            w.setRateByValue(3, 60);
            for (int i = 0; i < 16; i++) {
                w.weigh(i, 0);
            }
        });
        Fresh.gives("debt", 96016, ruined, BondWarehouse::debt);
        Fresh.gives("twelve times the most", 23972, ruined, w -> {
            for (int i = 0; i < 12; i++) {
                w.deposit(9999);
            }
            return w.account();
        });
    }

    private static void setBond() {
        Sentences.promise(14);
        Sentences.says("Sets the bond");
        Fresh.gives("bond", 440, BUSY, w -> Fresh.last(w.setBond(440), w.bond()));
        Sentences.says("Undoable");
        Fresh.saves("setBond", BUSY, w -> w.setBond(440));
        Sentences.says("`bond`: 0 to 50000");
        Fresh.gives("0", 0, EMPTY, w -> Fresh.last(w.setBond(0), w.bond()));
        Fresh.gives("50000", 50000, BUSY, w -> Fresh.last(w.setBond(50000), w.bond()));
        Sentences.says("Returns the previous bond");
        Fresh.gives("the first", 5000, BUSY, w -> w.setBond(440));
        Fresh.gives("the second", 440, BUSY, w -> Fresh.last(w.setBond(440), w.setBond(439)));
        Sentences.says("Throws `IllegalArgumentException` if bond is out of range");
        Fresh.refusesEach("bond", Check.ARGUMENT, Fresh.outside(0, 50000), BUSY, BondWarehouse::setBond);
        Sentences.says("Throws `IllegalStateException` if it is less than the duty at stake");
        Fresh.gives("as much as is at stake", 5000, BUSY, w -> w.setBond(439));
        Fresh.refuses("one crown less", Check.STATE, BUSY, w -> w.setBond(438));
        Fresh.refuses("none", Check.STATE, BUSY, w -> w.setBond(0));
        Supplier<BondWarehouse> late = busyAfter(w -> Fresh.pass(w, 185));
        // 66 + 220 + 192 + 6
        Fresh.gives("as much as is at stake, overdue", 5000, late, w -> w.setBond(484));
        Fresh.refuses("one crown less, overdue", Check.STATE, late, w -> w.setBond(483));
    }

    private static void setRateByValue() {
        Sentences.promise(15);
        Sentences.says("Sets the rate by value of a kind");
        Fresh.gives("rate", 33, BUSY, w -> Fresh.last(w.setRateByValue(2, 33), w.rateByValue(2)));
        Fresh.gives("no other", 20, BUSY, w -> Fresh.last(w.setRateByValue(2, 33), w.rateByValue(1)));
        Fresh.gives("not by weight", 25, BUSY, w -> Fresh.last(w.setRateByValue(2, 33), w.rateByWeight(2)));
        Fresh.gives("over the bond, and yet", 120 + 200 + 174 + 10, busyAfter(w -> w.setBond(439)),
                w -> Fresh.last(w.setRateByValue(0, 20), w.dutyAtStake()));
        Sentences.says("Undoable");
        Fresh.saves("setRateByValue", BUSY, w -> w.setRateByValue(0, 60));
        Sentences.says("`kind`: 0 to 5");
        Fresh.gives("0", 10, BUSY, w -> w.setRateByValue(0, 1));
        Fresh.gives("5", 15, BUSY, w -> w.setRateByValue(5, 1));
        Sentences.says("`percent`: 0 to 60");
        Fresh.gives("0", 0, BUSY, w -> Fresh.last(w.setRateByValue(0, 0), w.rateByValue(0)));
        Fresh.gives("60", 60, BUSY, w -> Fresh.last(w.setRateByValue(0, 60), w.rateByValue(0)));
        Sentences.says("Returns the previous rate");
        Fresh.gives("the first", 30, BUSY, w -> w.setRateByValue(4, 0));
        Fresh.gives("the second", 0, BUSY, w -> Fresh.last(w.setRateByValue(4, 0), w.setRateByValue(4, 60)));
        Sentences.says(NO_ARGUMENT);
        Fresh.refusesEach("kind", Check.ARGUMENT, Fresh.NO_KINDS, BUSY, (w, kind) -> w.setRateByValue(kind, 1));
        Fresh.refusesEach("percent", Check.ARGUMENT, Fresh.outside(0, 60), BUSY,
                (w, rate) -> w.setRateByValue(0, rate));
    }

    private static void setRateByWeight() {
        Sentences.promise(16);
        Sentences.says("Sets the rate by weight of a kind");
        Fresh.gives("rate", 33, BUSY, w -> Fresh.last(w.setRateByWeight(2, 33), w.rateByWeight(2)));
        Fresh.gives("no other", 10, BUSY, w -> Fresh.last(w.setRateByWeight(2, 33), w.rateByWeight(1)));
        Fresh.gives("not by value", 5, BUSY, w -> Fresh.last(w.setRateByWeight(2, 33), w.rateByValue(2)));
        Sentences.says("Undoable");
        Fresh.saves("setRateByWeight", BUSY, w -> w.setRateByWeight(0, 80));
        Sentences.says("`kind`: 0 to 5");
        Fresh.gives("0", 0, BUSY, w -> w.setRateByWeight(0, 1));
        Fresh.gives("5", 5, BUSY, w -> w.setRateByWeight(5, 1));
        Sentences.says("`crowns`: 0 to 80");
        Fresh.gives("0", 0, BUSY, w -> Fresh.last(w.setRateByWeight(3, 0), w.rateByWeight(3)));
        Fresh.gives("80", 80, BUSY, w -> Fresh.last(w.setRateByWeight(3, 80), w.rateByWeight(3)));
        Sentences.says("Returns the previous rate");
        Fresh.gives("the first", 40, BUSY, w -> w.setRateByWeight(3, 0));
        Fresh.gives("the second", 0, BUSY, w -> Fresh.last(w.setRateByWeight(3, 0), w.setRateByWeight(3, 80)));
        Sentences.says(NO_ARGUMENT);
        Fresh.refusesEach("kind", Check.ARGUMENT, Fresh.NO_KINDS, BUSY, (w, kind) -> w.setRateByWeight(kind, 1));
        Fresh.refusesEach("crowns", Check.ARGUMENT, Fresh.outside(0, 80), BUSY,
                (w, rate) -> w.setRateByWeight(0, rate));
    }

    private static void pass() {
        Sentences.promise(17);
        Sentences.says("Lets days pass");
        Fresh.gives("day", 33, BUSY, w -> Fresh.last(w.pass(17), w.day()));
        Fresh.gives("age", 33, BUSY, w -> Fresh.last(w.pass(17), w.ageOf(4)));
        Fresh.gives("receipt", 18, BUSY, w -> Fresh.last(w.pass(17), w.receiptAge(0)));
        Sentences.says("Undoable");
        Fresh.saves("pass", BUSY, w -> w.pass(100));
        Sentences.says("`days`: 1 to 100");
        Fresh.gives("1", 1, EMPTY, w -> Fresh.last(w.pass(1), w.day()));
        Fresh.gives("100", 100, EMPTY, w -> Fresh.last(w.pass(100), w.day()));
        Sentences.says("Returns the number of entries that become overdue in them");
        Supplier<BondWarehouse> three = () -> Fresh.after(w -> {
            w.enter(0, 1, 1, 0);
            w.pass(1);
            w.enter(0, 1, 1, 0);
            w.enter(0, 1, 1, 0);
            Fresh.pass(w, 198);
        });
        Fresh.gives("200 days", 0, three, w -> w.pass(1));
        Fresh.gives("201 days", 1, three, w -> w.pass(2));
        Fresh.gives("all of them", 3, three, w -> w.pass(3));
        Fresh.gives("both others", 2, three, w -> Fresh.last(w.pass(2), w.pass(100)));
        Fresh.gives("none that is overdue already", 0, three, w -> Fresh.last(w.pass(3), w.pass(100)));
        Fresh.gives("none that is closed", 2, three, w -> Fresh.last(w.sendAbroad(0, 1), w.pass(3)));
    }

    private static void passRefused() {
        Sentences.says("Throws `IllegalArgumentException` if days is out of range");
        Fresh.refusesEach("days", Check.ARGUMENT, Fresh.outside(1, 100), BUSY, BondWarehouse::pass);
        Sentences.says("Throws `IllegalStateException` if the day would be greater than 9999");
        Supplier<BondWarehouse> late = () -> Fresh.after(w -> {
            w.enter(0, 1, 1, 0);
            Fresh.pass(w, 9950);
        });
        Fresh.gives("9999", 9999, late, w -> Fresh.last(w.pass(49), w.day()));
        Fresh.refuses("10000", Check.STATE, late, w -> w.pass(50));
        Fresh.refuses("10050", Check.STATE, late, w -> w.pass(100));
        Fresh.refuses("no day is left", Check.STATE, () -> {
            BondWarehouse w = late.get();
            w.pass(49);
            return w;
        }, w -> w.pass(1));
        Fresh.refuses("argument first", Check.ARGUMENT, late, w -> w.pass(101));
    }
}
