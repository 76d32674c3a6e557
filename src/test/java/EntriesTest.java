/** Promises 18 to 33: queries about entries. */
public final class EntriesTest {

    private EntriesTest() {
    }

    public static void main(String[] args) {
        numbers();
        properties();
        noSuchEntry();
        duties();
        overdueDuties();
        waste();
        means();
        Check.end();
    }

    private static void numbers() {
        BondWarehouse w = new BondWarehouse();
        Check.promise(22);
        Check.refuses("none yet", Check.INDEX, () -> w.entryAt(0));
        for (int i = 0; i < 5; i++) {
            w.enter(0, 10 + i, 10, i);
        }
        w.pass(2);
        w.sendAbroad(0, 10);
        w.sendAbroad(3, 13);
        Check.promise(18);
        Check.is("day", 2, w::day);
        Check.promise(19);
        Check.is("open", 3, w::entries);
        Check.promise(20);
        Check.is("made", 5, w::entriesMade);
        Check.promise(21);
        int[] asked = {Integer.MIN_VALUE, -1, 0, 1, 2, 3, 4, 5, 60, Integer.MAX_VALUE};
        boolean[] due = {false, false, false, true, true, false, true, false, false, false};
        for (int i = 0; i < asked.length; i++) {
            int number = asked[i];
            Check.is("open " + number, due[i], () -> w.isOpenEntry(number));
        }
        Check.promise(22);
        Check.is("first", 1, () -> w.entryAt(0));
        Check.is("second", 2, () -> w.entryAt(1));
        Check.is("third", 4, () -> w.entryAt(2));
        Check.refuses("no more", Check.INDEX, () -> w.entryAt(3));
        Check.refuses("negative", Check.INDEX, () -> w.entryAt(-1));
        Check.promise(24);
        Check.is("the second's weight", 12, () -> w.weightOf(2));
        w.enter(0, 1, 1, 0);
        Check.promise(22);
        Check.is("the new one", 5, () -> w.entryAt(3));
        Check.promise(20);
        Check.is("made then", 6, w::entriesMade);
        w.undo();
        w.undo();
        Check.promise(22);
        Check.is("the closed one is back", 3, () -> w.entryAt(2));
    }

    private static void properties() {
        BondWarehouse w = new BondWarehouse();
        w.enter(5, 7, 8, 4);
        w.pass(9);
        w.enter(3, 6, 5, 2);
        w.pass(1);
        Check.promise(23);
        Check.is("kind", 5, () -> w.kindOf(0));
        Check.is("kind", 3, () -> w.kindOf(1));
        Check.promise(24);
        Check.is("weight", 7, () -> w.weightOf(0));
        Check.is("weight", 6, () -> w.weightOf(1));
        Check.promise(25);
        Check.is("value", 8, () -> w.valueOf(0));
        Check.is("value", 5, () -> w.valueOf(1));
        Check.promise(26);
        Check.is("chamber", 4, () -> w.chamberOf(0));
        Check.is("chamber", 2, () -> w.chamberOf(1));
        Check.promise(27);
        Check.is("age", 10, () -> w.ageOf(0));
        Check.is("age", 1, () -> w.ageOf(1));
        Check.promise(28);
        Check.is("proved", true, () -> w.isProved(0));
        w.lock(4);
        w.breakSeal(4);
        w.open(4);
        Check.is("not proved", false, () -> w.isProved(0));
        Check.is("the other", true, () -> w.isProved(1));
        Check.promise(29);
        w.pass(100);
        w.pass(90);
        Check.is("200 days", false, () -> w.isOverdue(0));
        w.pass(1);
        Check.is("201 days", true, () -> w.isOverdue(0));
        Check.is("192 days", false, () -> w.isOverdue(1));
    }

    private static void noSuchEntry() {
        BondWarehouse w = new BondWarehouse();
        w.enter(0, 1, 1, 0);
        w.enter(0, 1, 1, 0);
        w.sendAbroad(0, 1);
        for (int entry : new int[] {-1, 0, 2, 60, Integer.MIN_VALUE, Integer.MAX_VALUE}) {
            Check.promise(23);
            Check.refuses("kindOf", Check.INDEX, () -> w.kindOf(entry));
            Check.promise(24);
            Check.refuses("weightOf", Check.INDEX, () -> w.weightOf(entry));
            Check.promise(25);
            Check.refuses("valueOf", Check.INDEX, () -> w.valueOf(entry));
            Check.promise(26);
            Check.refuses("chamberOf", Check.INDEX, () -> w.chamberOf(entry));
            Check.promise(27);
            Check.refuses("ageOf", Check.INDEX, () -> w.ageOf(entry));
            Check.promise(28);
            Check.refuses("isProved", Check.INDEX, () -> w.isProved(entry));
            Check.promise(29);
            Check.refuses("isOverdue", Check.INDEX, () -> w.isOverdue(entry));
            Check.promise(30);
            Check.refuses("dutyOfPart", Check.INDEX, () -> w.dutyOfPart(entry, 0));
            Check.promise(31);
            Check.refuses("dutyOf", Check.INDEX, () -> w.dutyOf(entry));
            Check.promise(32);
            Check.refuses("allowedWaste", Check.INDEX, () -> w.allowedWaste(entry));
        }
    }

    private static void duties() {
        BondWarehouse w = new BondWarehouse();
        w.enter(1, 7, 10, 0);
        Check.promise(31);
        // 10 * 20 / 100, and 7 * 10 / 100 rounded up
        Check.is("whole", 3, () -> w.dutyOf(0));
        Check.promise(30);
        // share 10 * 3 / 7 = 4: one crown, and one for the weight
        Check.is("part", 2, () -> w.dutyOfPart(0, 3));
        Check.is("no share", 2, () -> w.dutyOfPart(0, 1));
        Check.is("all of it", 3, () -> w.dutyOfPart(0, 7));
        Check.refuses("too much", Check.ARGUMENT, () -> w.dutyOfPart(0, 8));
        Check.refuses("nothing", Check.ARGUMENT, () -> w.dutyOfPart(0, 0));
        Check.refuses("below", Check.ARGUMENT, () -> w.dutyOfPart(0, -1));
        w.enter(5, 999, 9999, 0);
        Check.promise(31);
        Check.is("large", 1500 + 50, () -> w.dutyOf(1));
        w.enter(3, 2, 9999, 1);
        Check.is("only by weight", 1, () -> w.dutyOf(2));
        w.enter(0, 2, 9999, 1);
        Check.is("only by value", 1000, () -> w.dutyOf(3));
        w.enter(2, 300, 100, 1);
        Check.is("nothing to round", 5 + 75, () -> w.dutyOf(4));
        w.setRateByValue(3, 0);
        w.setRateByWeight(3, 0);
        Check.is("no rates", 0, () -> w.dutyOf(2));
        w.enter(3, 101, 101, 2);
        w.setRateByValue(3, 1);
        Check.is("by value, just rounded up", 2, () -> w.dutyOf(5));
        w.setRateByValue(3, 0);
        w.setRateByWeight(3, 1);
        Check.is("by weight, just rounded up", 2, () -> w.dutyOf(5));
    }

    private static void overdueDuties() {
        BondWarehouse w = new BondWarehouse();
        w.enter(0, 100, 1000, 0);
        w.enter(0, 100, 1010, 0);
        w.pass(100);
        w.pass(100);
        Check.promise(31);
        Check.is("at 200 days", 100, () -> w.dutyOf(0));
        w.pass(1);
        Check.is("a tenth", 110, () -> w.dutyOf(0));
        Check.is("a tenth, rounded up", 112, () -> w.dutyOf(1));
        Check.promise(30);
        Check.is("of a part", 11, () -> w.dutyOfPart(0, 10));
        // 110 crowns of value: 11, and 1.1 rounded up
        Check.is("of a part, rounded up", 13, () -> w.dutyOfPart(0, 11));
        Check.promise(47);
        Check.is("stake", 222, w::dutyAtStake);
    }

    private static void waste() {
        Check.promise(32);
        BondWarehouse w = new BondWarehouse();
        w.enter(4, 999, 100, 0);
        w.enter(1, 100, 100, 1);
        w.enter(0, 999, 100, 2);
        w.pass(9);
        Check.is("9 days", 0, () -> w.allowedWaste(0));
        w.pass(1);
        // 999 * 20 * 1 / 1000 = 19.98
        Check.is("10 days", 19, () -> w.allowedWaste(0));
        Check.is("per mille", 0, () -> w.allowedWaste(1));
        w.pass(10);
        Check.is("20 days", 1, () -> w.allowedWaste(1));
        Check.is("without waste", 0, () -> w.allowedWaste(2));
        w.weigh(0, 990);
        Check.is("weighed", 0, () -> w.allowedWaste(0));
        for (int i = 0; i < 5; i++) {
            w.pass(100);
        }
        Check.is("at most the weight", 990, () -> w.allowedWaste(0));
        w.undo();
        Check.is("just less", 792, () -> w.allowedWaste(0));
        int[] due = {0, 49, 99, 19, 199, 0};
        for (int kind = 0; kind < 6; kind++) {
            BondWarehouse v = new BondWarehouse();
            v.enter(kind, 999, 1, 0);
            v.pass(100);
            Check.is("kind " + kind, due[kind], () -> v.allowedWaste(0));
        }
    }

    private static void means() {
        Check.promise(33);
        BondWarehouse w = new BondWarehouse();
        Check.isDouble("none", 0.0, w::meanDuty);
        w.enter(0, 1, 100, 0);
        Check.isDouble("one", 10.0, w::meanDuty);
        w.enter(0, 1, 101, 0);
        Check.isDouble("two", 10.5, w::meanDuty);
        w.enter(0, 1, 100, 0);
        Check.isDouble("three", 31.0 / 3.0, w::meanDuty);
        w.sendAbroad(0, 1);
        w.sendAbroad(1, 1);
        w.sendAbroad(2, 1);
        Check.isDouble("none again", 0.0, w::meanDuty);
    }
}
