/** Promises 69 to 76: what would be, and the cheapest way to take goods out. */
public final class WhatIfTest {

    private WhatIfTest() {
    }

    public static void main(String[] args) {
        chargeIfWeighed();
        drawbackFor();
        dutyLater();
        overdue();
        cheapest();
        cheapestExactly();
        dutyFromCheapest();
        dearest();
        wrongArguments();
        Check.end();
    }

    private static void chargeIfWeighed() {
        Check.promise(69);
        BondWarehouse w = new BondWarehouse();
        w.enter(4, 500, 2000, 0);
        w.pass(39);
        Check.is("all is there", 0, () -> w.chargeIfWeighed(0, 500));
        Check.is("all that is missing is waste", 0, () -> w.chargeIfWeighed(0, 470));
        Check.is("one kilogram is lost", 2, () -> w.chargeIfWeighed(0, 469));
        // 470 are lost: 1880 crowns
        Check.is("nothing is there", 564, () -> w.chargeIfWeighed(0, 0));
        w.lock(0);
        Check.is("in a locked chamber", 564, () -> w.chargeIfWeighed(0, 0));
        w.breakSeal(0);
        w.open(0);
        Check.is("not proved", 1128, () -> w.chargeIfWeighed(0, 0));
        Check.refuses("more than it has", Check.ARGUMENT, () -> w.chargeIfWeighed(0, 501));
        Check.refuses("below", Check.ARGUMENT, () -> w.chargeIfWeighed(0, -1));
        Check.refuses("no entry", Check.INDEX, () -> w.chargeIfWeighed(1, -1));
        Check.is("nothing was weighed", 500, () -> w.weightOf(0));
        Check.is("nothing was charged", 0, w::charges);
        Check.is("nothing was saved", 5, w::savedStates);
        w.pass(100);
        w.pass(62);
        // 201 days: all 200 * 20 / 1000 of it may be waste: 4 tenths are 200
        Check.is("overdue", 2 * (360 + 36), () -> w.chargeIfWeighed(0, 0));
    }

    private static void drawbackFor() {
        Check.promise(70);
        BondWarehouse w = new BondWarehouse();
        w.deposit(500);
        w.enter(0, 300, 3330, 0);
        w.withdraw(0, 300);
        Check.is("a part", 6, () -> w.drawbackFor(0, 7));
        Check.is("the least part", 0, () -> w.drawbackFor(0, 1));
        Check.is("all", 299, () -> w.drawbackFor(0, 300));
        Check.refuses("more", Check.ARGUMENT, () -> w.drawbackFor(0, 301));
        Check.refuses("nothing", Check.ARGUMENT, () -> w.drawbackFor(0, 0));
        Check.refuses("no receipt", Check.INDEX, () -> w.drawbackFor(1, 0));
        Check.refuses("negative", Check.INDEX, () -> w.drawbackFor(-1, 1));
        w.pass(61);
        Check.is("too old", 299, () -> w.drawbackFor(0, 300));
        w.enter(0, 10, 9999, 0);
        w.weigh(1, 0);
        Check.is("with debt", 299, () -> w.drawbackFor(0, 300));
        Check.is("nothing was paid", 0, w::drawbacks);
        w.deposit(9999);
        w.enter(0, 100, 100, 0);
        w.withdraw(2, 100);
        w.drawBack(0, 60);
        Check.is("of what is left", 3, () -> w.drawbackFor(0, 40));
        Check.refuses("more than is left", Check.ARGUMENT, () -> w.drawbackFor(0, 41));
    }

    private static void dutyLater() {
        Check.promise(71);
        BondWarehouse w = new BondWarehouse();
        w.enter(0, 100, 1001, 0);
        w.pass(50);
        Check.is("now", 101, () -> w.dutyLater(0, 0));
        Check.is("at 200 days", 101, () -> w.dutyLater(0, 150));
        Check.is("at 201 days", 112, () -> w.dutyLater(0, 151));
        Check.is("the most", 112, () -> w.dutyLater(0, 365));
        Check.refuses("too many", Check.ARGUMENT, () -> w.dutyLater(0, 366));
        Check.refuses("below", Check.ARGUMENT, () -> w.dutyLater(0, -1));
        Check.refuses("no entry", Check.INDEX, () -> w.dutyLater(1, -1));
        Check.is("no day passed", 50, w::day);
    }

    private static void overdue() {
        BondWarehouse w = new BondWarehouse();
        Check.promise(73);
        Check.is("none", -1, w::nextOverdue);
        w.enter(0, 10, 10, 0);
        w.pass(10);
        w.enter(0, 10, 10, 0);
        w.enter(0, 10, 10, 0);
        w.pass(5);
        w.enter(0, 10, 10, 0);
        Check.promise(72);
        Check.is("the first", 186, () -> w.daysToOverdue(0));
        Check.is("the second", 196, () -> w.daysToOverdue(1));
        Check.is("the last", 201, () -> w.daysToOverdue(3));
        Check.promise(73);
        Check.is("the oldest", 0, w::nextOverdue);
        w.pass(100);
        w.pass(85);
        Check.is("still it", 0, w::nextOverdue);
        Check.promise(72);
        Check.is("tomorrow", 1, () -> w.daysToOverdue(0));
        w.pass(1);
        Check.is("today", 0, () -> w.daysToOverdue(0));
        w.pass(1);
        Check.is("yesterday", 0, () -> w.daysToOverdue(0));
        Check.refuses("no entry", Check.INDEX, () -> w.daysToOverdue(4));
        Check.promise(73);
        Check.is("among like ones the first", 1, w::nextOverdue);
        w.sendAbroad(1, 10);
        Check.is("the like one", 2, w::nextOverdue);
        w.pass(100);
        Check.is("all are overdue", -1, w::nextOverdue);
        BondWarehouse v = new BondWarehouse();
        v.enter(0, 10, 10, 0);
        v.pass(3);
        v.enter(0, 10, 10, 0);
        v.split(0, 5);
        v.merge(1, 0);
        Check.is("by age, not by number", 1, v::nextOverdue);
    }

    private static void cheapest() {
        Check.promise(74);
        BondWarehouse w = new BondWarehouse();
        Check.is("none", -1, () -> w.cheapestEntry(0));
        w.enter(0, 10, 1000, 0);
        w.enter(0, 100, 1000, 1);
        w.enter(0, 50, 500, 2);
        w.enter(1, 999, 1, 0);
        Check.is("among like ones the first", 1, () -> w.cheapestEntry(0));
        Check.is("another kind", 3, () -> w.cheapestEntry(1));
        Check.is("no such goods", -1, () -> w.cheapestEntry(2));
        w.sendAbroad(1, 100);
        Check.is("the like one", 2, () -> w.cheapestEntry(0));
        w.lock(2);
        Check.is("in a locked chamber", 2, () -> w.cheapestEntry(0));
        Check.refuses("no kind", Check.ARGUMENT, () -> w.cheapestEntry(6));
        Check.refuses("no kind below", Check.ARGUMENT, () -> w.cheapestEntry(-1));
    }

    private static void cheapestExactly() {
        Check.promise(74);
        BondWarehouse w = new BondWarehouse();
        // 2 crowns for 3 kilograms, and 67 for 101: 202 are more than 201
        w.enter(0, 3, 20, 0);
        w.enter(0, 101, 670, 0);
        Check.is("exactly", 1, () -> w.cheapestEntry(0));
        w.setRateByWeight(5, 0);
        w.setRateByValue(5, 10);
        // 66 crowns for 99 kilograms are like 2 for 3
        w.enter(5, 99, 660, 0);
        w.enter(5, 3, 20, 0);
        Check.is("among like ones the first", 2, () -> w.cheapestEntry(5));
        w.enter(2, 300, 1, 0);
        w.enter(2, 200, 1, 0);
        w.setRateByWeight(2, 0);
        w.setRateByValue(2, 0);
        Check.is("without duties", 4, () -> w.cheapestEntry(2));
    }

    private static void dutyFromCheapest() {
        Check.promise(75);
        BondWarehouse w = new BondWarehouse();
        w.setBond(50000);
        w.enter(0, 10, 1000, 0);
        w.enter(0, 100, 1000, 1);
        w.enter(1, 100, 1, 1);
        w.enter(0, 40, 1000, 2);
        w.enter(0, 50, 500, 2);
        Check.is("of the first", 7, () -> w.dutyFromCheapest(0, 7));
        Check.is("all of the first", 100, () -> w.dutyFromCheapest(0, 100));
        Check.is("of the like one, too", 101, () -> w.dutyFromCheapest(0, 101));
        Check.is("and of the third", 150 + 3, () -> w.dutyFromCheapest(0, 151));
        Check.is("and of the last", 250 + 20, () -> w.dutyFromCheapest(0, 192));
        Check.is("all", 350, () -> w.dutyFromCheapest(0, 200));
        Check.is("more than all", -1, () -> w.dutyFromCheapest(0, 201));
        Check.is("much more than all", -1, () -> w.dutyFromCheapest(0, 9999));
        Check.is("no such goods", -1, () -> w.dutyFromCheapest(5, 1));
        Check.is("nothing is taken", 200, () -> w.stockByEntries(0));
        w.pass(100);
        w.lock(1);
        w.breakSeal(1);
        w.open(1);
        w.lock(2);
        Check.is("chambers and proofs do not matter", 350, () -> w.dutyFromCheapest(0, 200));
        w.pass(100);
        w.pass(1);
        Check.is("overdue", 110 + 55 + 110 + 110, () -> w.dutyFromCheapest(0, 200));
        Check.refuses("no kind", Check.ARGUMENT, () -> w.dutyFromCheapest(6, 1));
        Check.refuses("no kind below", Check.ARGUMENT, () -> w.dutyFromCheapest(-1, 1));
        Check.refuses("nothing", Check.ARGUMENT, () -> w.dutyFromCheapest(0, 0));
        Check.refuses("below", Check.ARGUMENT, () -> w.dutyFromCheapest(0, -1));
        Check.refuses("too much", Check.ARGUMENT, () -> w.dutyFromCheapest(0, 10000));
        BondWarehouse v = new BondWarehouse();
        for (int i = 0; i < 10; i++) {
            v.enter(3, 999, 1, i / 2);
        }
        Check.is("the most", 4000, () -> v.dutyFromCheapest(3, 9990));
        Check.is("over the stock", -1, () -> v.dutyFromCheapest(3, 9991));
    }

    private static void dearest() {
        Check.promise(76);
        BondWarehouse w = new BondWarehouse();
        Check.is("none", -1, w::dearestEntry);
        w.enter(0, 10, 100, 0);
        w.enter(0, 500, 100, 0);
        w.enter(4, 20, 66, 0);
        Check.is("by the duty", 2, w::dearestEntry);
        w.sendAbroad(2, 10);
        Check.is("among like ones the first", 0, w::dearestEntry);
        w.sendAbroad(0, 10);
        Check.is("the like one", 1, w::dearestEntry);
    }

    private static void wrongArguments() {
        BondWarehouse w = new BondWarehouse();
        Check.promise(72);
        Check.refuses("no entry", Check.INDEX, () -> w.daysToOverdue(0));
        Check.refuses("negative", Check.INDEX, () -> w.daysToOverdue(-1));
        Check.promise(69);
        Check.refuses("negative", Check.INDEX, () -> w.chargeIfWeighed(-1, 0));
        Check.promise(71);
        Check.refuses("negative", Check.INDEX, () -> w.dutyLater(-1, 0));
    }
}
