import java.util.function.Supplier;

/** The terms at the head of the document, sentence by sentence: its kinds, entries, duties, chambers and seals. */
final class TermBoundaries {
    private static final Supplier<BondWarehouse> EMPTY = Fresh::empty;

    private TermBoundaries() {
    }

    static void all() {
        Sentences.terms();
        calls();
        divisions();
        kinds();
        rates();
        entries();
        numbers();
        limits();
        closing();
        room();
        ages();
        overdue();
        proofs();
        shares();
        duties();
        overdueDuties();
        partsGone();
        stake();
        bond();
        chambers();
        seals();
    }

    private static void calls() {
        Sentences.says("An object is used for at most 512 calls after it has been made");
        BondWarehouse w = new BondWarehouse();
        for (int i = 1; i <= 256; i++) {
            int seal = i;
            Check.is("call " + (2 * i - 1), seal, () -> w.lock(0));
            Check.is("call " + 2 * i, 0, () -> w.open(0));
        }
    }

    private static void divisions() {
        Sentences.says("Divisions are rounded down unless something else is said");
        Supplier<BondWarehouse> two = () -> Fresh.after(w -> {
            w.enter(0, 3, 10, 0);
            w.split(0, 2);
        });
        Fresh.gives("two thirds of 10 crowns", 6, two, w -> w.valueOf(1));
        Fresh.gives("what is left of them", 4, two, w -> w.valueOf(0));
        Supplier<BondWarehouse> nineteen = () -> Fresh.after(w -> {
            w.enter(2, 199, 1, 0);
            w.pass(19);
        });
        Fresh.gives("199 kg, 10 per mille, 19 days", 1, nineteen, w -> w.allowedWaste(0));
    }

    private static void kinds() {
        Sentences.says("There are 6 kinds, 0 to 5");
        for (int kind = 0; kind < 6; kind++) {
            int k = kind;
            Fresh.gives("goods of kind " + k, 0, EMPTY, w -> w.enter(k, 1, 1, 0));
        }
        Fresh.refusesEach("goods", Check.ARGUMENT, Fresh.NO_KINDS, EMPTY, (w, kind) -> w.enter(kind, 1, 1, 0));
    }

    private static void rates() {
        int[] byValue = {10, 20, 5, 0, 30, 15};
        int[] byWeight = {0, 10, 25, 40, 0, 5};
        // of 999 kilograms
        int[] waste = {0, 4, 9, 1, 19, 0};
        int[] wasteLater = {0, 9, 19, 3, 39, 0};
        for (int kind = 0; kind < 6; kind++) {
            int k = kind;
            Sentences.says("At first their rates by value are 10, 20, 5, 0, 30 and 15 percent,"
                    + " their rates by weight 0, 10, 25, 40, 0 and 5 crowns for 100 kilograms");
            Fresh.gives("by value " + k, byValue[k], EMPTY, w -> w.rateByValue(k));
            Fresh.gives("by weight " + k, byWeight[k], EMPTY, w -> w.rateByWeight(k));
            Sentences.says("Their rates of waste are 0, 5, 10, 2, 20 and 0 per mille for ten days, which never change");
            Supplier<BondWarehouse> tenDays = () -> Fresh.after(w -> {
                w.enter(k, 999, 1, 0);
                w.pass(9);
            });
            Fresh.gives("after 9 days, kind " + k, 0, tenDays, w -> w.allowedWaste(0));
            Fresh.gives("after 10 days, kind " + k, waste[k], tenDays, w -> Fresh.last(w.pass(1), w.allowedWaste(0)));
            Fresh.gives("after 19 days, kind " + k, waste[k], tenDays, w -> Fresh.last(w.pass(10), w.allowedWaste(0)));
            Fresh.gives("after 20 days, kind " + k, wasteLater[k], tenDays,
                    w -> Fresh.last(w.pass(11), w.allowedWaste(0)));
            Supplier<BondWarehouse> changed = () -> Fresh.after(w -> {
                w.enter(k, 999, 1, 0);
                w.setRateByValue(k, 60);
                w.setRateByWeight(k, 80);
                w.pass(10);
            });
            Fresh.gives("with other rates, kind " + k, waste[k], changed, w -> w.allowedWaste(0));
        }
    }

    private static void entries() {
        Sentences.says("An entry is goods of a kind, with a weight, a value, and a chamber, 0 to 4");
        for (int chamber = 0; chamber < 5; chamber++) {
            int c = chamber;
            Fresh.gives("chamber", c, EMPTY, w -> Fresh.last(w.enter(5, 7, 8, c), w.chamberOf(0)));
        }
        Fresh.gives("kind", 5, EMPTY, w -> Fresh.last(w.enter(5, 7, 8, 4), w.kindOf(0)));
        Fresh.gives("weight", 7, EMPTY, w -> Fresh.last(w.enter(5, 7, 8, 4), w.weightOf(0)));
        Fresh.gives("value", 8, EMPTY, w -> Fresh.last(w.enter(5, 7, 8, 4), w.valueOf(0)));
        Fresh.refusesEach("a chamber", Check.ARGUMENT, Fresh.NO_CHAMBERS, EMPTY,
                (w, chamber) -> w.enter(0, 1, 1, chamber));
    }

    private static void numbers() {
        Sentences.says("Entries are numbered from 0 in the order in which they are made"
                + " (those that are made by split(), too)");
        BondWarehouse w = new BondWarehouse();
        Check.is("the first", 0, () -> w.enter(0, 9, 1, 0));
        Check.is("the second", 1, () -> w.enter(0, 9, 1, 0));
        Check.is("by split", 2, () -> w.split(0, 1));
        Check.is("after split", 3, () -> w.enter(0, 9, 1, 0));
        Sentences.says("numbers are not used again");
        w.sendAbroad(3, 9);
        Check.is("after the last is closed", 4, () -> w.enter(0, 9, 1, 0));
        w.merge(0, 2);
        w.weigh(4, 0);
        w.deposit(9);
        Check.is("by split, after others are closed", 5, () -> w.split(0, 1));
        Check.is("the closed one stays closed", false, () -> w.isOpenEntry(4));
    }

    private static BondWarehouse full() {
        return Fresh.after(w -> {
            for (int i = 0; i < 16; i++) {
                w.enter(0, 2, 1, 0);
            }
        });
    }

    /** The numbers 45 to 59 are open; nothing more can be made. */
    private static BondWarehouse madeOut() {
        return Fresh.after(w -> {
            for (int i = 0; i < 60; i++) {
                w.enter(0, 2, 1, 0);
                if (i >= 15) {
                    w.sendAbroad(i - 15, 2);
                }
            }
        });
    }

    private static void limits() {
        Sentences.says("At most 16 entries are open at a time, and at most 60 are made");
        Fresh.gives("16 are open", 16, TermBoundaries::full, BondWarehouse::entries);
        Fresh.refuses("a seventeenth", Check.STATE, TermBoundaries::full, w -> w.enter(0, 1, 1, 0));
        Fresh.refuses("a seventeenth by split", Check.STATE, TermBoundaries::full, w -> w.split(0, 1));
        Fresh.gives("one instead of one", 16, TermBoundaries::full, w -> {
            w.sendAbroad(7, 2);
            w.enter(0, 1, 1, 0);
            return w.entries();
        });
        Fresh.gives("60 are made", 60, TermBoundaries::madeOut, BondWarehouse::entriesMade);
        Fresh.gives("15 of them are open", 15, TermBoundaries::madeOut, BondWarehouse::entries);
        Fresh.refuses("a sixty-first", Check.STATE, TermBoundaries::madeOut, w -> w.enter(0, 1, 1, 0));
        Fresh.refuses("a sixty-first by split", Check.STATE, TermBoundaries::madeOut, w -> w.split(59, 1));
        Fresh.gives("undone, the last is made again", 59, TermBoundaries::madeOut, w -> {
            w.undo();
            w.undo();
            return w.split(58, 1);
        });
    }

    private static void closing() {
        Sentences.says("An entry without weight is closed");
        Fresh.Steps[] ways = {w -> w.withdraw(0, 60), w -> w.sendAbroad(0, 60), w -> w.weigh(0, 0), w -> w.merge(4, 0),
            w -> Fresh.run(w, "w0*60"), w -> Fresh.run(w, "x0*60"), w -> Fresh.run(w, "g0*0")};
        for (int i = 0; i < ways.length; i++) {
            int way = i;
            Supplier<BondWarehouse> closed = () -> Fresh.busyAfter(w -> {
                w.move(4, 0);
                ways[way].on(w);
            });
            Fresh.gives("open, way " + i, 0, closed, w -> Fresh.flag(w.isOpenEntry(0)));
            Fresh.gives("entries, way " + i, 3, closed, BondWarehouse::entries);
            Fresh.gives("the first, way " + i, 1, closed, w -> w.entryAt(0));
            Fresh.refuses("its weight, way " + i, Check.INDEX, closed, w -> w.weightOf(0));
        }
        Fresh.gives("one kilogram is left", 1, Fresh::busy, w -> {
            w.sendAbroad(0, 59);
            return Fresh.flag(w.isOpenEntry(0));
        });
        Sentences.says("it is no entry any more");
        Supplier<BondWarehouse> closed = () -> Fresh.busyAfter(w -> w.withdraw(0, 60));
        Fresh.gives("in its chamber", 0, closed, w -> w.entriesIn(0));
        Fresh.gives("its room", 2000, closed, w -> w.roomIn(0));
        Fresh.gives("its stock", 20, closed, w -> w.stockByEntries(0));
        Fresh.gives("the cheapest of its kind", 4, closed, w -> w.cheapestEntry(0));
        Fresh.gives("what is at stake", 200 + 174 + 5, closed, BondWarehouse::dutyAtStake);
        Fresh.refuses("weighed", Check.INDEX, closed, w -> w.weigh(0, 0));
        Fresh.refuses("merged", Check.INDEX, closed, w -> w.merge(4, 0));
    }

    private static void room() {
        Sentences.says("A chamber has room for 2000 kilograms");
        Supplier<BondWarehouse> nearly = () -> Fresh.after(w -> {
            w.enter(0, 999, 1, 4);
            w.enter(0, 999, 1, 4);
            w.enter(0, 2, 1, 3);
            w.enter(0, 3, 1, 3);
        });
        Fresh.gives("2000 are entered", 4, nearly, w -> w.enter(0, 2, 1, 4));
        Fresh.refuses("2001 are entered", Check.STATE, nearly, w -> w.enter(0, 3, 1, 4));
        Fresh.gives("2000 by a move", 0, nearly, w -> w.move(2, 4));
        Fresh.refuses("2001 by a move", Check.STATE, nearly, w -> w.move(3, 4));
        Fresh.gives("another chamber", 1995, nearly, w -> w.roomIn(3));
    }

    private static void ages() {
        Sentences.says("An entry has an age, the days since it was entered,"
                + " and days since it was weighed, both 0 at first");
        Supplier<BondWarehouse> late = () -> Fresh.after(w -> {
            w.pass(37);
            w.enter(4, 500, 1, 0);
        });
        Fresh.gives("age at first", 0, late, w -> w.ageOf(0));
        Fresh.gives("age then", 9, late, w -> Fresh.last(w.pass(9), w.ageOf(0)));
        Fresh.gives("not weighed for 9 days", 0, late, w -> Fresh.last(w.pass(9), w.allowedWaste(0)));
        Fresh.gives("not weighed for 10 days", 10, late, w -> Fresh.last(w.pass(10), w.allowedWaste(0)));
        Fresh.gives("weighing leaves the age", 10, late, w -> Fresh.last(w.pass(10), w.weigh(0, 500), w.ageOf(0)));
    }

    private static void overdue() {
        Sentences.says("It is overdue if its age is greater than 200");
        Supplier<BondWarehouse> old = () -> Fresh.after(w -> {
            w.pass(5);
            w.enter(0, 10, 10, 0);
            Fresh.pass(w, 199);
        });
        Fresh.gives("199 days", 0, old, w -> Fresh.flag(w.isOverdue(0)));
        Fresh.gives("200 days", 0, old, w -> Fresh.last(w.pass(1), Fresh.flag(w.isOverdue(0))));
        Fresh.gives("201 days", 1, old, w -> {
            w.pass(2);
            return Fresh.flag(w.isOverdue(0));
        });
    }

    private static void proofs() {
        Sentences.says("It is proved, unless its chamber was opened with a broken seal,"
                + " and it was not weighed since");
        Supplier<BondWarehouse> one = () -> Fresh.after(w -> w.enter(0, 10, 10, 0));
        Fresh.gives("at first", 1, one, w -> Fresh.flag(w.isProved(0)));
        Fresh.gives("opened with a whole seal", 1, one, w -> {
            w.lock(0);
            w.open(0);
            return Fresh.flag(w.isProved(0));
        });
        Supplier<BondWarehouse> broken = () -> Fresh.after(w -> {
            w.enter(0, 10, 10, 0);
            w.enter(0, 10, 10, 0);
            w.lock(0);
            w.breakSeal(0);
        });
        Fresh.gives("broken, but not opened", 1, broken, w -> Fresh.flag(w.isProved(0)));
        Fresh.gives("broken and opened", 0, broken, w -> {
            w.open(0);
            return Fresh.flag(w.isProved(0));
        });
        Fresh.gives("weighed since", 1, broken, w -> {
            w.open(0);
            w.weigh(0, 10);
            return Fresh.flag(w.isProved(0));
        });
        Fresh.gives("another one was weighed since", 0, broken, w -> {
            w.open(0);
            w.weigh(1, 10);
            return Fresh.flag(w.isProved(0));
        });
        Fresh.gives("opened once more, with a whole seal", 0, broken, w -> {
            w.open(0);
            w.lock(0);
            w.open(0);
            return Fresh.flag(w.isProved(0));
        });
        Fresh.gives("weighed before", 0, one, w -> {
            w.weigh(0, 10);
            Fresh.openBroken(w, 0);
            return Fresh.flag(w.isProved(0));
        });
    }

    private static void shares() {
        Sentences.says("The share of a part of an entry is the value of the entry times the weight of the part,"
                + " divided by the weight of the entry");
        // by value alone, and 60 percent of it: 1 for a share of 1
        Supplier<BondWarehouse> light = () -> Fresh.after(w -> w.enter(0, 999, 1, 0));
        Fresh.gives("nearly all of one crown", 0, light, w -> w.dutyOfPart(0, 998));
        Fresh.gives("one crown", 1, light, w -> w.dutyOfPart(0, 999));
        Supplier<BondWarehouse> dear = () -> Fresh.after(w -> w.enter(0, 999, 9999, 0));
        Fresh.gives("9999 * 998 / 999 = 9988", 999, dear, w -> w.dutyOfPart(0, 998));
        Fresh.gives("the share that leaves", 11, dear, w -> Fresh.last(w.sendAbroad(0, 998), w.valueOf(0)));
        Supplier<BondWarehouse> merged = () -> Fresh.after(w -> {
            w.setRateByValue(0, 0);
            for (int i = 0; i < 60; i++) {
                w.enter(0, i == 0 ? 900 : 1, 9999, 0);
                if (i > 0) {
                    w.merge(0, i);
                }
            }
        });
        Fresh.gives("the most crowns that an entry can have", 599940, merged, w -> w.valueOf(0));
        Fresh.gives("a share of them", 599940 - 599940 * 958 / 959, merged,
                w -> Fresh.last(w.sendAbroad(0, 958), w.valueOf(0)));
        Fresh.gives("the most duty", 599940 * 60 / 100, merged, w -> {
            w.setRateByValue(0, 60);
            return w.dutyOf(0);
        });
    }

    private static void duties() {
        Sentences.says("The duty of the part is its share times the rate by value, divided by 100, rounded up,"
                + " plus its weight times the rate by weight, divided by 100, rounded up");
        int[][] goods = {
            // kind, weight, value, duty
            {0, 1, 1, 1}, {0, 1, 10, 1}, {0, 1, 11, 2}, {0, 1, 100, 10}, {0, 1, 101, 11}, {0, 999, 9999, 1000},
            {3, 1, 9999, 1}, {3, 5, 1, 2}, {3, 6, 1, 3}, {3, 250, 1, 100}, {3, 999, 1, 400},
            {5, 1, 1, 2}, {5, 20, 100, 16}, {5, 21, 101, 18}, {1, 10, 5, 2}, {1, 11, 6, 4}, {2, 4, 20, 2}, {2, 5, 21,
                    4}};
        for (int[] g : goods) {
            String call = "kind " + g[0] + ", " + g[1] + " kg, " + g[2] + " crowns";
            Fresh.gives(call, g[3], EMPTY, w -> Fresh.last(w.enter(g[0], g[1], g[2], 0), w.dutyOf(0)));
            Fresh.gives(call + ", as a part", g[3], EMPTY,
                    w -> Fresh.last(w.enter(g[0], g[1], g[2], 0), w.dutyOfPart(0, g[1])));
        }
        Fresh.gives("by value, 1.01 crowns", 2, EMPTY, w -> {
            w.setRateByWeight(3, 0);
            w.setRateByValue(3, 1);
            return Fresh.last(w.enter(3, 1, 101, 0), w.dutyOf(0));
        });
        Fresh.gives("by weight, 1.01 crowns", 2, EMPTY, w -> {
            w.setRateByWeight(3, 1);
            return Fresh.last(w.enter(3, 101, 1, 0), w.dutyOf(0));
        });
        Fresh.gives("no rates", 0, EMPTY, w -> {
            w.setRateByWeight(3, 0);
            return Fresh.last(w.enter(3, 999, 9999, 0), w.dutyOf(0));
        });
    }

    private static void overdueDuties() {
        Sentences.says("If the entry is overdue, a tenth of this sum, rounded up, is added");
        int[][] goods = {{0, 1, 1, 2}, {0, 1, 90, 10}, {0, 1, 100, 11}, {0, 1, 101, 13}, {0, 1, 110, 13},
            {0, 1, 200, 22}, {0, 1, 201, 24}, {5, 20, 100, 18}};
        for (int[] g : goods) {
            Supplier<BondWarehouse> old = () -> Fresh.after(w -> {
                w.enter(g[0], g[1], g[2], 0);
                Fresh.pass(w, 201);
            });
            Fresh.gives("kind " + g[0] + ", " + g[2] + " crowns", g[3], old, w -> w.dutyOf(0));
        }
        Fresh.gives("nothing", 0, EMPTY, w -> {
            w.setRateByWeight(3, 0);
            w.enter(3, 999, 9999, 0);
            Fresh.pass(w, 201);
            return w.dutyOf(0);
        });
        Fresh.gives("not at 200 days", 20, EMPTY, w -> {
            w.enter(0, 1, 200, 0);
            Fresh.pass(w, 200);
            return w.dutyOf(0);
        });
    }

    private static void partsGone() {
        Sentences.says("When a part of an entry is gone, the entry has its weight less, and its share less");
        Fresh.Steps[] ways = {w -> w.withdraw(0, 2), w -> w.sendAbroad(0, 2), w -> w.split(0, 2), w -> w.weigh(0, 1)};
        for (int i = 0; i < ways.length; i++) {
            int way = i;
            Supplier<BondWarehouse> gone = () -> Fresh.after(w -> {
                w.deposit(100);
                w.enter(0, 3, 10, 0);
                ways[way].on(w);
            });
            Fresh.gives("weight, way " + i, 1, gone, w -> w.weightOf(0));
            Fresh.gives("value, way " + i, 4, gone, w -> w.valueOf(0));
        }
    }

    private static void stake() {
        Sentences.says("The duty at stake is the sum of the duties of all entries as a whole");
        Fresh.gives("none", 0, EMPTY, BondWarehouse::dutyAtStake);
        Supplier<BondWarehouse> three = () -> Fresh.after(w -> {
            w.enter(0, 1, 1, 0);
            w.enter(0, 1, 1, 1);
            w.lock(1);
            w.pass(1);
            w.enter(5, 1, 1, 2);
        });
        Fresh.gives("each rounded for itself", 1 + 1 + 2, three, BondWarehouse::dutyAtStake);
        Fresh.gives("two of them overdue", 2 + 2 + 2, three, w -> {
            Fresh.pass(w, 200);
            return w.dutyAtStake();
        });
        Fresh.gives("16 entries", 16, TermBoundaries::full, BondWarehouse::dutyAtStake);
    }

    private static void bond() {
        Sentences.says("The bond is 0 to 50000, at first 5000");
        Fresh.gives("at first", 5000, EMPTY, BondWarehouse::bond);
        Fresh.gives("0", 0, EMPTY, w -> {
            w.setBond(0);
            return w.bond();
        });
        Fresh.gives("50000", 50000, EMPTY, w -> {
            w.setBond(50000);
            return w.bond();
        });
        Fresh.refusesEach("a bond", Check.ARGUMENT, Fresh.outside(0, 50000), EMPTY, BondWarehouse::setBond);
        Fresh.refuses("any duty without a bond", Check.STATE, () -> Fresh.after(w -> w.setBond(0)),
                w -> w.enter(0, 1, 1, 0));
    }

    private static void chambers() {
        Sentences.says("A chamber is open or locked");
        for (int chamber = 0; chamber < 5; chamber++) {
            int c = chamber;
            Fresh.gives("locked", 1, EMPTY, w -> Fresh.last(w.lock(c), Fresh.flag(w.isLocked(c))));
            Fresh.gives("opened", 0, EMPTY, w -> Fresh.last(w.lock(c), w.open(c), Fresh.flag(w.isLocked(c))));
        }
        Sentences.says("all are open at first");
        for (int chamber = 0; chamber < 5; chamber++) {
            int c = chamber;
            Fresh.gives("locked at first", 0, EMPTY, w -> Fresh.flag(w.isLocked(c)));
        }
    }

    private static void seals() {
        BondWarehouse w = new BondWarehouse();
        Sentences.says("When it is locked, it gets a seal");
        Check.is("none before", -1, () -> w.sealOf(3));
        w.lock(3);
        Check.is("its seal", 1, () -> w.sealOf(3));
        Sentences.says("seals are numbered from 1 in the order in which they are put");
        Check.is("the second", 2, () -> w.lock(0));
        w.open(0);
        w.open(3);
        Check.is("the third, though none is there", 3, () -> w.lock(3));
        Sentences.says("The seal of a locked chamber can be broken");
        Check.is("broken", 3, () -> w.breakSeal(3));
        Fresh.refuses("that of an open chamber", Check.STATE, EMPTY, v -> v.breakSeal(3));
        Sentences.says("When a chamber is opened, its seal is gone");
        w.open(3);
        Check.is("no seal", -1, () -> w.sealOf(3));
        Check.is("no broken one", false, () -> w.isSealBroken(3));
        Sentences.says("if that was broken, none of its entries is proved any more");
        w.enter(0, 1, 1, 3);
        w.enter(0, 1, 1, 3);
        w.enter(0, 1, 1, 2);
        w.lock(3);
        Check.is("that one was gone", 0, () -> w.open(3));
        Fresh.openBroken(w, 3);
        Check.is("the first", false, () -> w.isProved(0));
        Check.is("the last", false, () -> w.isProved(1));
        Check.is("elsewhere", true, () -> w.isProved(2));
    }
}
