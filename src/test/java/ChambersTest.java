/** Promises 10 to 12 and 34 to 38: chambers and their seals. */
public final class ChambersTest {

    private ChambersTest() {
    }

    public static void main(String[] args) {
        locking();
        opening();
        openingWithBrokenSeal();
        breaking();
        queries();
        noSuchChamber();
        Check.end();
    }

    private static void locking() {
        Check.promise(10);
        BondWarehouse w = new BondWarehouse();
        Check.is("the first seal", 1, () -> w.lock(4));
        Check.is("the second", 2, () -> w.lock(0));
        Check.refuses("locked already", Check.STATE, () -> w.lock(4));
        Check.is("saved", 2, w::savedStates);
        Check.is("the number", 1, () -> w.sealOf(4));
        w.open(4);
        Check.is("a new one", 3, () -> w.lock(4));
        w.undo();
        Check.is("its number is undone, too", 3, () -> w.lock(1));
        w.breakSeal(0);
        Check.refuses("a broken seal locks", Check.STATE, () -> w.lock(0));
    }

    private static void opening() {
        Check.promise(11);
        BondWarehouse w = new BondWarehouse();
        w.enter(0, 10, 10, 1);
        Check.refuses("open already", Check.STATE, () -> w.open(1));
        w.lock(1);
        Check.is("nothing was broken", 0, () -> w.open(1));
        Check.is("proved", true, () -> w.isProved(0));
        Check.is("open", false, () -> w.isLocked(1));
        Check.is("the seal is gone", -1, () -> w.sealOf(1));
        Check.is("saved", 3, w::savedStates);
        Check.refuses("open again", Check.STATE, () -> w.open(1));
    }

    private static void openingWithBrokenSeal() {
        Check.promise(11);
        BondWarehouse w = new BondWarehouse();
        w.enter(0, 10, 10, 1);
        w.enter(3, 10, 10, 1);
        w.enter(0, 10, 10, 2);
        w.lock(1);
        w.breakSeal(1);
        Check.is("proved as long as it is locked", true, () -> w.isProved(0));
        Check.is("both are not proved", 2, () -> w.open(1));
        Check.is("the first", false, () -> w.isProved(0));
        Check.is("the second", false, () -> w.isProved(1));
        Check.is("not the one elsewhere", true, () -> w.isProved(2));
        Check.is("no seal is broken now", false, () -> w.isSealBroken(1));
        w.weigh(0, 10);
        w.enter(0, 1, 1, 1);
        Check.is("a later one is proved", true, () -> w.isProved(3));
        w.lock(1);
        Check.is("the new seal is whole", false, () -> w.isSealBroken(1));
        Check.is("the second still is not", 1, () -> w.open(1));
        Check.is("the weighed one is", true, () -> w.isProved(0));
        w.undo();
        w.undo();
        w.undo();
        w.undo();
        Check.is("undone", false, () -> w.isProved(0));
    }

    private static void breaking() {
        Check.promise(12);
        BondWarehouse w = new BondWarehouse();
        Check.refuses("open", Check.STATE, () -> w.breakSeal(3));
        w.lock(2);
        w.lock(3);
        Check.is("the number", 2, () -> w.breakSeal(3));
        Check.is("broken", true, () -> w.isSealBroken(3));
        Check.is("still locked", true, () -> w.isLocked(3));
        Check.is("still there", 2, () -> w.sealOf(3));
        Check.is("not the other", false, () -> w.isSealBroken(2));
        Check.refuses("broken already", Check.STATE, () -> w.breakSeal(3));
        Check.is("saved", 3, w::savedStates);
        w.undo();
        Check.is("undone", false, () -> w.isSealBroken(3));
    }

    private static void queries() {
        BondWarehouse w = new BondWarehouse();
        w.lock(3);
        Check.promise(34);
        Check.is("locked", true, () -> w.isLocked(3));
        Check.is("not locked", false, () -> w.isLocked(2));
        Check.promise(35);
        Check.is("seal", 1, () -> w.sealOf(3));
        Check.is("no seal", -1, () -> w.sealOf(2));
        Check.promise(36);
        Check.is("whole", false, () -> w.isSealBroken(3));
        w.breakSeal(3);
        Check.is("broken", true, () -> w.isSealBroken(3));
        w.open(3);
        Check.is("gone", false, () -> w.isSealBroken(3));
        w.enter(0, 999, 1, 0);
        w.enter(1, 500, 1, 0);
        w.enter(1, 7, 1, 4);
        Check.promise(37);
        Check.is("two", 2, () -> w.entriesIn(0));
        Check.is("none", 0, () -> w.entriesIn(1));
        Check.is("one", 1, () -> w.entriesIn(4));
        Check.promise(38);
        Check.is("room", 501, () -> w.roomIn(0));
        Check.is("all room", 2000, () -> w.roomIn(1));
        Check.is("most room", 1993, () -> w.roomIn(4));
        w.sendAbroad(0, 999);
        Check.is("room again", 1500, () -> w.roomIn(0));
        Check.promise(37);
        Check.is("one is gone", 1, () -> w.entriesIn(0));
    }

    private static void noSuchChamber() {
        BondWarehouse w = new BondWarehouse();
        for (int chamber : new int[] {-1, 5, Integer.MIN_VALUE, Integer.MAX_VALUE}) {
            Check.promise(10);
            Check.refuses("lock", Check.INDEX, () -> w.lock(chamber));
            Check.promise(11);
            Check.refuses("open", Check.INDEX, () -> w.open(chamber));
            Check.promise(12);
            Check.refuses("breakSeal", Check.INDEX, () -> w.breakSeal(chamber));
            Check.promise(34);
            Check.refuses("isLocked", Check.INDEX, () -> w.isLocked(chamber));
            Check.promise(35);
            Check.refuses("sealOf", Check.INDEX, () -> w.sealOf(chamber));
            Check.promise(36);
            Check.refuses("isSealBroken", Check.INDEX, () -> w.isSealBroken(chamber));
            Check.promise(37);
            Check.refuses("entriesIn", Check.INDEX, () -> w.entriesIn(chamber));
            Check.promise(38);
            Check.refuses("roomIn", Check.INDEX, () -> w.roomIn(chamber));
        }
        Check.is("nothing is saved", 0, w::savedStates);
    }
}
