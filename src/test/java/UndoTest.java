/** Promises 81 to 84: undo and snapshots. */
public final class UndoTest {

    private UndoTest() {
    }

    public static void main(String[] args) {
        undoing();
        sixAtMost();
        undoingAll();
        whatSaves();
        keeping();
        goingBack();
        goingBackIsUndoable();
        rowsComeBack();
        theBufferIsNoState();
        Check.end();
    }

    private static void undoing() {
        Check.promise(81);
        BondWarehouse w = new BondWarehouse();
        Check.refuses("nothing is saved", Check.STATE, w::undo);
        w.deposit(1);
        w.deposit(2);
        Check.is("one left", 1, w::undo);
        Check.is("account", 1, w::account);
        Check.is("none left", 0, w::undo);
        Check.is("account then", 0, w::account);
        Check.refuses("nothing is left", Check.STATE, w::undo);
        Check.refuses("a refused call", Check.ARGUMENT, () -> w.deposit(0));
        Check.refuses("saves nothing", Check.STATE, w::undo);
    }

    private static void sixAtMost() {
        Check.promise(82);
        BondWarehouse w = new BondWarehouse();
        for (int i = 1; i <= 20; i++) {
            w.deposit(1);
            Check.is("saved", Math.min(6, i), w::savedStates);
        }
        Check.promise(81);
        for (int left = 5; left >= 0; left--) {
            Check.is("left", left, w::undo);
        }
        Check.is("the oldest that was saved", 14, w::account);
        Check.refuses("the older ones are discarded", Check.STATE, w::undo);
        Check.promise(82);
        Check.is("none", 0, w::savedStates);
        w.deposit(1);
        w.deposit(1);
        w.undo();
        Check.is("one", 1, w::savedStates);
        Check.is("account", 15, w::account);
    }

    /** Each part of the state comes back. */
    private static void undoingAll() {
        Check.promise(81);
        BondWarehouse w = new BondWarehouse();
        w.deposit(1000);
        w.enter(4, 100, 1000, 1);
        w.enter(4, 200, 1000, 1);
        w.withdraw(0, 50);
        w.pass(20);
        String before = Told.of(w);
        Runnable[] calls = {() -> w.enter(0, 1, 1, 0), () -> w.withdraw(0, 50), () -> w.withdraw(1, 7),
            () -> w.sendAbroad(0, 50), () -> w.sendAbroad(0, 1), () -> w.drawBack(0, 20), () -> w.move(0, 2),
            () -> w.split(1, 50), () -> w.merge(0, 1), () -> w.merge(1, 0), () -> w.weigh(0, 0), () -> w.weigh(1, 100),
            () -> w.lock(1), () -> w.deposit(5), () -> w.setBond(4000), () -> w.setRateByValue(4, 60),
            () -> w.setRateByWeight(4, 80), () -> w.pass(100)};
        for (int i = 0; i < calls.length; i++) {
            calls[i].run();
            String changed = Told.of(w);
            Check.compare("call " + i + " changes something", "true", Boolean.toString(!changed.equals(before)));
            w.undo();
            Check.compare("call " + i, before, Told.of(w));
        }
        w.lock(1);
        String locked = Told.of(w);
        w.breakSeal(1);
        String broken = Told.of(w);
        w.open(1);
        w.undo();
        Check.compare("open", broken, Told.of(w));
        w.undo();
        Check.compare("breakSeal", locked, Told.of(w));
        w.undo();
        Check.compare("lock", before, Told.of(w));
    }

    private static void whatSaves() {
        Check.promise(82);
        BondWarehouse w = new BondWarehouse();
        Check.is("none at first", 0, w::savedStates);
        w.setBond(5000);
        Check.is("even if nothing changes", 1, w::savedStates);
        w.keep(0);
        w.append('d');
        w.append('5');
        w.firstError();
        Check.is("not by these", 1, w::savedStates);
        w.run();
        Check.is("by run", 2, w::savedStates);
        w.goBack(0);
        Check.is("by goBack", 3, w::savedStates);
        w.undo();
        Check.is("undo takes one", 2, w::savedStates);
        w.clearText();
        Check.is("not by clearText", 2, w::savedStates);
        Check.refuses("a refusal", Check.STATE, () -> w.goBack(1));
        Check.refuses("a refusal", Check.ARGUMENT, w::run);
        Check.is("not by refusals", 2, w::savedStates);
    }

    private static void keeping() {
        Check.promise(83);
        BondWarehouse w = new BondWarehouse();
        Check.is("none is open", 0, () -> w.keep(0));
        w.enter(0, 1, 1, 0);
        w.enter(0, 1, 1, 0);
        Check.is("two are open", 2, () -> w.keep(1));
        Check.refuses("no slot", Check.INDEX, () -> w.keep(2));
        Check.refuses("negative", Check.INDEX, () -> w.keep(-1));
        w.enter(0, 1, 1, 0);
        Check.is("another snapshot", 3, () -> w.keep(1));
        Check.is("it was replaced", 3, () -> w.goBack(1));
        Check.is("the other slot", 0, () -> w.goBack(0));
    }

    private static void goingBack() {
        Check.promise(84);
        BondWarehouse w = new BondWarehouse();
        Check.refuses("empty", Check.STATE, () -> w.goBack(0));
        Check.refuses("empty, too", Check.STATE, () -> w.goBack(1));
        Check.refuses("no slot", Check.INDEX, () -> w.goBack(2));
        Check.refuses("negative", Check.INDEX, () -> w.goBack(-1));
        w.deposit(500);
        w.enter(0, 100, 1000, 0);
        w.keep(1);
        String kept = Told.of(w);
        Check.refuses("the other is empty", Check.STATE, () -> w.goBack(0));
        w.withdraw(0, 50);
        w.enter(1, 10, 100, 2);
        w.lock(0);
        Check.is("back", 1, () -> w.goBack(1));
        Check.compare("all is back", kept, Told.of(w));
        w.pass(5);
        w.weigh(0, 3);
        Check.is("it stays in its slot", 1, () -> w.goBack(1));
        Check.compare("all is back again", kept, Told.of(w));
        w.sendAbroad(0, 100);
        w.undo();
        w.undo();
        Check.is("undo leaves the slots", 1, () -> w.goBack(1));
        Check.compare("all is back once more", kept, Told.of(w));
    }

    private static void goingBackIsUndoable() {
        Check.promise(84);
        BondWarehouse w = new BondWarehouse();
        w.keep(0);
        w.deposit(5);
        String before = Told.of(w);
        w.goBack(0);
        Check.is("saved", 2, w::savedStates);
        Check.is("account", 0, w::account);
        Check.is("left", 1, w::undo);
        Check.compare("undone", before, Told.of(w));
        for (int i = 0; i < 7; i++) {
            w.goBack(0);
        }
        Check.is("six", 6, w::savedStates);
    }

    /** Rows are used again, so that each of their fields must come back, and not only those that changed. */
    private static void rowsComeBack() {
        Check.promise(84);
        BondWarehouse w = new BondWarehouse();
        w.deposit(5000);
        w.enter(4, 100, 1000, 3);
        w.enter(5, 50, 70, 2);
        w.pass(11);
        w.weigh(0, 90);
        w.withdraw(0, 40);
        w.pass(3);
        w.withdraw(1, 10);
        w.lock(2);
        w.breakSeal(2);
        w.keep(0);
        String kept = Told.of(w);
        w.open(2);
        w.sendAbroad(0, w.weightOf(0));
        w.weigh(1, 40);
        w.sendAbroad(1, 40);
        for (int i = 0; i < 12; i++) {
            w.enter(3, 300, 999, 0);
            w.withdraw(2 + i, 300);
            w.pass(1);
        }
        w.enter(1, 999, 9999, 1);
        w.setRateByValue(1, 60);
        w.weigh(14, 0);
        Check.compare("there is debt", "true", Boolean.toString(w.debt() > 0));
        String indebted = Told.of(w);
        w.goBack(0);
        Check.compare("all is back", kept, Told.of(w));
        Check.is("the next seal", 2, () -> w.lock(0));
        Check.is("nothing is missing", 0, () -> w.weigh(0, 50));
        w.undo();
        w.undo();
        w.undo();
        Check.promise(81);
        Check.compare("undone", indebted, Told.of(w));
        w.undo();
        Check.is("no debt before", 0, w::debt);
    }

    private static void theBufferIsNoState() {
        Check.promise(81);
        BondWarehouse w = new BondWarehouse();
        w.append('l');
        w.keep(0);
        w.deposit(1);
        w.append('0');
        w.undo();
        Check.is("undo leaves the buffer", 2, w::firstError);
        w.append(';');
        w.goBack(0);
        Check.promise(84);
        Check.is("goBack leaves the buffer", 3, w::clearText);
    }
}
