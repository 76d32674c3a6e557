import java.util.function.Supplier;

/** The terms at the head of the document, sentence by sentence: weighing, drawbacks, journals, undo, exceptions. */
final class CustomsBoundaries {
    private static final Supplier<BondWarehouse> EMPTY = Fresh::empty;

    private CustomsBoundaries() {
    }

    static void all() {
        Sentences.terms();
        waste();
        weighing();
        losses();
        missing();
        charges();
        receipts();
        latestReceipts();
        paidBack();
        buffer();
        lines();
        numbers();
        errors();
        state();
        saving();
        slots();
        exceptions();
        constants();
    }

    private static void waste() {
        Sentences.says("The waste that is allowed for an entry is its weight times the rate of waste of its kind,"
                + " times (the days since it was weighed / 10), divided by 1000, but at most its weight");
        Supplier<BondWarehouse> goods = () -> Fresh.after(w -> w.enter(4, 50, 1, 0));
        Fresh.gives("on the first day", 0, goods, w -> w.allowedWaste(0));
        Fresh.gives("9 days", 0, goods, w -> Fresh.last(w.pass(9), w.allowedWaste(0)));
        Fresh.gives("10 days", 1, goods, w -> Fresh.last(w.pass(10), w.allowedWaste(0)));
        Fresh.gives("19 days", 1, goods, w -> Fresh.last(w.pass(19), w.allowedWaste(0)));
        int[] days = {480, 489, 490, 499, 500, 510, 600, 5000};
        int[] due = {48, 48, 49, 49, 50, 50, 50, 50};
        for (int i = 0; i < days.length; i++) {
            int passed = days[i];
            Fresh.gives(passed + " days", due[i], goods, w -> {
                Fresh.pass(w, passed);
                return w.allowedWaste(0);
            });
        }
        Fresh.gives("one kilogram, 490 days", 0, EMPTY, w -> {
            w.enter(4, 1, 1, 0);
            Fresh.pass(w, 490);
            return w.allowedWaste(0);
        });
        Fresh.gives("the largest numbers", 999, EMPTY, w -> {
            w.enter(4, 999, 1, 0);
            Fresh.pass(w, 9999);
            return w.allowedWaste(0);
        });
        Fresh.gives("weighed on the tenth day", 0, goods,
                w -> Fresh.last(w.pass(10), w.weigh(0, 50), w.allowedWaste(0)));
    }

    /** 500 kg of kind 4 for 2000 crowns, 10 of which may be waste. */
    private static BondWarehouse tenDays() {
        return Fresh.after(w -> {
            w.enter(4, 500, 2000, 0);
            w.deposit(2000);
            w.pass(10);
        });
    }

    private static void weighing() {
        Sentences.says("When an entry is weighed, and some of its weight is missing,"
                + " what is allowed is waste, and the rest is lost");
        int[] found = {500, 499, 491, 490, 489, 0};
        int[] wasted = {0, 1, 9, 10, 10, 10};
        int[] lost = {0, 0, 0, 0, 1, 490};
        for (int i = 0; i < found.length; i++) {
            int f = found[i];
            Fresh.Call weigh = w -> w.weigh(0, f);
            Fresh.gives("wasted with " + f, wasted[i], CustomsBoundaries::tenDays,
                    w -> Fresh.last(weigh.on(w), w.wasted(4)));
            Fresh.gives("lost with " + f, lost[i], CustomsBoundaries::tenDays, w -> Fresh.last(weigh.on(w), w.lost(4)));
        }
        Fresh.gives("all may be waste", 50, EMPTY, w -> {
            w.enter(4, 50, 50, 0);
            Fresh.pass(w, 600);
            return Fresh.last(w.weigh(0, 0), w.wasted(4));
        });
    }

    private static void losses() {
        Sentences.says("For what is lost the duty (as of a part of the entry with the weight that it had) is charged,"
                + " and twice as much if the entry is not proved");
        Fresh.gives("nothing is lost", 0, CustomsBoundaries::tenDays, w -> w.weigh(0, 490));
        // 1 kg: 4 crowns, 30 percent of them rounded up
        Fresh.gives("1 kg is lost", 2, CustomsBoundaries::tenDays, w -> w.weigh(0, 489));
        Fresh.gives("490 kg are lost", 588, CustomsBoundaries::tenDays, w -> w.weigh(0, 0));
        Supplier<BondWarehouse> unproved = () -> Fresh.after(w -> {
            w.enter(4, 500, 2000, 0);
            w.deposit(2000);
            w.pass(10);
            Fresh.openBroken(w, 0);
        });
        Fresh.gives("nothing is lost, not proved", 0, unproved, w -> w.weigh(0, 490));
        Fresh.gives("1 kg is lost, not proved", 4, unproved, w -> w.weigh(0, 489));
        Fresh.gives("490 kg are lost, not proved", 1176, unproved, w -> w.weigh(0, 0));
        Fresh.gives("a share rounded down: 2 * 10 / 3 = 6", 1, EMPTY,
                w -> Fresh.last(w.enter(0, 3, 10, 0), w.weigh(0, 1)));
        Supplier<BondWarehouse> late = () -> Fresh.after(w -> {
            w.enter(0, 10, 1000, 0);
            Fresh.openBroken(w, 0);
            Fresh.pass(w, 201);
        });
        Fresh.gives("overdue and not proved", 2 * 11, late, w -> w.weigh(0, 9));
    }

    private static void missing() {
        Sentences.says("What is missing is gone from the entry, as one part");
        Supplier<BondWarehouse> seven = () -> Fresh.after(w -> {
            w.enter(4, 7, 9, 0);
            Fresh.pass(w, 150);
        });
        Fresh.gives("waste", 2, seven, w -> w.allowedWaste(0));
        // 4 kg at once: 9 * 4 / 7 = 5; 2 kg of waste and 2 kg that are lost would be 2 + 2
        Fresh.gives("value", 4, seven, w -> Fresh.last(w.weigh(0, 3), w.valueOf(0)));
        Fresh.gives("weight", 3, seven, w -> Fresh.last(w.weigh(0, 3), w.weightOf(0)));
        Sentences.says("then the entry is proved, and was weighed 0 days ago");
        Supplier<BondWarehouse> unproved = () -> Fresh.after(w -> {
            w.enter(4, 500, 2000, 0);
            Fresh.openBroken(w, 0);
            w.pass(10);
        });
        Fresh.gives("not proved before", 0, unproved, w -> Fresh.flag(w.isProved(0)));
        Fresh.gives("proved, though nothing is missing", 1, unproved,
                w -> Fresh.last(w.weigh(0, 500), Fresh.flag(w.isProved(0))));
        Fresh.gives("proved, though 490 kg are missing", 1, unproved,
                w -> Fresh.last(w.weigh(0, 10), Fresh.flag(w.isProved(0))));
        Fresh.gives("no waste is allowed then", 0, unproved, w -> Fresh.last(w.weigh(0, 500), w.allowedWaste(0)));
        Fresh.gives("nor 9 days later", 0, unproved, w -> Fresh.last(w.weigh(0, 500), w.pass(9), w.allowedWaste(0)));
        Fresh.gives("but 10 days later", 10, unproved, w -> Fresh.last(w.weigh(0, 500), w.pass(10), w.allowedWaste(0)));
    }

    private static void charges() {
        int[] paidIn = {1, 99, 100, 101, 150};
        int[] account = {0, 0, 0, 1, 50};
        int[] debt = {99, 1, 0, 0, 0};
        for (int i = 0; i < paidIn.length; i++) {
            int amount = paidIn[i];
            Supplier<BondWarehouse> charged = () -> Fresh.after(w -> {
                w.deposit(amount);
                w.enter(0, 10, 1000, 0);
                w.weigh(0, 0);
            });
            Sentences.says("A charge is paid from the account as far as that reaches");
            Fresh.gives("account with " + amount, account[i], charged, BondWarehouse::account);
            Sentences.says("the rest is debt");
            Fresh.gives("debt with " + amount, debt[i], charged, BondWarehouse::debt);
        }
        Fresh.gives("with an empty account", 100, EMPTY,
                w -> Fresh.last(w.enter(0, 10, 1000, 0), w.weigh(0, 0), w.debt()));
        Fresh.gives("with debt already", 101, EMPTY, w -> {
            w.enter(0, 10, 1000, 0);
            w.enter(0, 10, 10, 0);
            w.weigh(0, 0);
            w.weigh(1, 0);
            return w.debt();
        });
    }

    private static void receipts() {
        Sentences.says("Each time that goods leave into the country, a receipt is made,"
                + " with their kind, their weight, the duty that was paid, and the day");
        Supplier<BondWarehouse> two = () -> Fresh.after(w -> {
            w.deposit(1000);
            w.enter(5, 30, 300, 0);
            w.enter(3, 10, 10, 0);
            w.pass(7);
            w.withdraw(0, 20);
            w.pass(2);
            w.withdraw(1, 10);
        });
        Fresh.gives("none for the others", 2, () -> Fresh.after(w -> {
            w.deposit(1000);
            w.enter(0, 30, 30, 0);
            w.withdraw(0, 1);
            w.sendAbroad(0, 1);
            w.weigh(0, 20);
            w.drawBack(0, 1);
            Fresh.run(w, "w0*1;x0*1;g0*5");
        }), BondWarehouse::receipts);
        Fresh.gives("kind", 5, two, w -> w.receiptKind(1));
        Fresh.gives("weight", 20, two, w -> w.receiptWeight(1));
        Fresh.gives("duty", 30 + 1, two, w -> w.receiptDuty(1));
        Fresh.gives("days", 2, two, w -> w.receiptAge(1));
        Fresh.gives("kind of a closed entry", 3, two, w -> w.receiptKind(0));
        Fresh.gives("weight of it", 10, two, w -> w.receiptWeight(0));
        Fresh.gives("a receipt without duty", 0, EMPTY, w -> {
            w.setRateByValue(0, 0);
            w.enter(0, 10, 10, 0);
            w.withdraw(0, 10);
            return w.receiptDuty(0);
        });
    }

    private static BondWarehouse withReceipts(int count) {
        return Fresh.after(w -> {
            w.deposit(500);
            w.enter(0, 999, 999, 0);
            for (int i = 1; i <= count; i++) {
                w.withdraw(0, i);
            }
        });
    }

    private static void latestReceipts() {
        Sentences.says("The latest 12 receipts are kept");
        int[] made = {0, 1, 11, 12, 13, 25};
        int[] kept = {0, 1, 11, 12, 12, 12};
        for (int i = 0; i < made.length; i++) {
            int count = made[i];
            Supplier<BondWarehouse> some = () -> withReceipts(count);
            Fresh.gives(count + " were made", kept[i], some, BondWarehouse::receipts);
            for (int rank = 0; rank < kept[i]; rank++) {
                int r = rank;
                Fresh.gives("the receipt " + r + " of " + count, count - r, some, w -> w.receiptWeight(r));
            }
            Fresh.refuses("one more of " + count, Check.INDEX, some, w -> w.receiptWeight(kept(count)));
        }
        Fresh.gives("without weight they count, too", 1, () -> withReceipts(12), w -> {
            w.drawBack(11, 1);
            w.drawBack(0, 12);
            return w.receipts() - 12 + Fresh.flag(w.receiptWeight(11) == 0 && w.receiptWeight(0) == 0);
        });
    }

    private static int kept(int made) {
        return Math.min(12, made);
    }

    /** A receipt of 3 kg with a duty of 10 crowns, and an account without any. */
    private static BondWarehouse threeForTen() {
        return Fresh.after(w -> {
            w.deposit(10);
            w.enter(0, 3, 100, 0);
            w.withdraw(0, 3);
        });
    }

    private static void paidBack() {
        Sentences.says("If goods of a receipt go abroad, the part of its duty for them is its duty times their weight,"
                + " divided by its weight");
        Fresh.gives("a third of 10", 7, CustomsBoundaries::threeForTen,
                w -> Fresh.last(w.drawBack(0, 1), w.receiptDuty(0)));
        Fresh.gives("two thirds of 10", 4, CustomsBoundaries::threeForTen,
                w -> Fresh.last(w.drawBack(0, 2), w.receiptDuty(0)));
        Fresh.gives("all of 10", 0, CustomsBoundaries::threeForTen,
                w -> Fresh.last(w.drawBack(0, 3), w.receiptDuty(0)));
        Sentences.says("nine tenths of this part (rounded down) are paid back into the account");
        Fresh.gives("of 3", 2, CustomsBoundaries::threeForTen, w -> w.drawBack(0, 1));
        Fresh.gives("of 6", 5, CustomsBoundaries::threeForTen, w -> w.drawBack(0, 2));
        Fresh.gives("of 10", 9, CustomsBoundaries::threeForTen, w -> w.drawBack(0, 3));
        Fresh.gives("into the account", 9, CustomsBoundaries::threeForTen,
                w -> Fresh.last(w.drawBack(0, 3), w.account()));
        Supplier<BondWarehouse> penny = () -> Fresh.after(w -> {
            w.deposit(10);
            w.enter(0, 1, 1, 0);
            w.withdraw(0, 1);
        });
        Fresh.gives("of 1", 0, penny, w -> w.drawBack(0, 1));
        Supplier<BondWarehouse> rich = () -> Fresh.after(w -> {
            w.enter(0, 10, 1000, 0);
            for (int i = 0; i < 10; i++) {
                w.deposit(9999);
            }
            w.deposit(9);
            w.withdraw(0, 10);
            w.deposit(99);
        });
        Fresh.gives("only deposits are refused at the brim", 90, rich, w -> w.drawBack(0, 10));
        Sentences.says("Then the receipt has their weight and this part less");
        Fresh.gives("the weight", 2, CustomsBoundaries::threeForTen,
                w -> Fresh.last(w.drawBack(0, 1), w.receiptWeight(0)));
        Fresh.gives("what is paid back for the rest: of 3, and of 4", 5, CustomsBoundaries::threeForTen, w -> {
            w.drawBack(0, 1);
            return w.drawBack(0, 1) + w.drawBack(0, 1);
        });
        Sentences.says("It stays, also with the weight 0");
        Fresh.gives("receipts", 1, CustomsBoundaries::threeForTen, w -> Fresh.last(w.drawBack(0, 3), w.receipts()));
        Fresh.gives("the weight", 0, CustomsBoundaries::threeForTen,
                w -> Fresh.last(w.drawBack(0, 3), w.receiptWeight(0)));
        Fresh.gives("the kind", 0, CustomsBoundaries::threeForTen, w -> Fresh.last(w.drawBack(0, 3), w.receiptKind(0)));
        Fresh.gives("the days", 8, CustomsBoundaries::threeForTen,
                w -> Fresh.last(w.drawBack(0, 3), w.pass(8), w.receiptAge(0)));
    }

    private static void buffer() {
        Sentences.says("The buffer contains at most 60 characters and is empty at first");
        Fresh.gives("at first", 0, EMPTY, BondWarehouse::clearText);
        Supplier<BondWarehouse> nearly = () -> Fresh.after(w -> Fresh.type(w, "x".repeat(59)));
        Fresh.gives("the sixtieth", 60, nearly, w -> w.append('x'));
        Supplier<BondWarehouse> full = () -> Fresh.after(w -> Fresh.type(w, "x".repeat(60)));
        Fresh.refuses("one more", Check.STATE, full, w -> w.append('x'));
        Fresh.gives("60 again", 60, full, w -> Fresh.last(w.clearText(), appendAll(w, "x".repeat(60))));
    }

    private static int appendAll(BondWarehouse w, String text) {
        int length = 0;
        for (int i = 0; i < text.length(); i++) {
            length = w.append(text.charAt(i));
        }
        return length;
    }

    /** A text that can be run, and answers how many of its lines are carried out. */
    private static void runs(String text, int lines) {
        Fresh.gives(text, lines, Fresh::busy, w -> Fresh.run(w, text));
    }

    private static void isNoText(String text) {
        Fresh.refuses(text, Check.ARGUMENT, () -> Fresh.busyAfter(w -> {
            w.clearText();
            Fresh.type(w, text);
        }), BondWarehouse::run);
    }

    private static void lines() {
        Sentences.says("A journal text is one or more lines with \";\" between them:");
        runs("d1", 1);
        runs("d1;d1", 2);
        runs("l0;l1;l2;o0;o1;o2;l0;l1;l2;o0;o1;o2;l0;l1;l2;o0;o1;o2;l0;l1", 20);
        for (String text : new String[] {"", ";", "d1;", ";d1", "d1;;d1", "d1d1", "d1,d1"}) {
            isNoText(text);
        }
        Sentences.says("\"e\", a kind, \"*\", a weight, \"*\", a value, \">\", and a chamber: like enter()");
        runs("e5*999*9999>2", 1);
        Fresh.Call enter = w -> Fresh.run(w, "e5*12*3456>2");
        Fresh.gives("kind", 5, Fresh::busy, w -> Fresh.last(enter.on(w), w.kindOf(5)));
        Fresh.gives("weight", 12, Fresh::busy, w -> Fresh.last(enter.on(w), w.weightOf(5)));
        Fresh.gives("value", 3456, Fresh::busy, w -> Fresh.last(enter.on(w), w.valueOf(5)));
        Fresh.gives("chamber", 2, Fresh::busy, w -> Fresh.last(enter.on(w), w.chamberOf(5)));
        for (String text : new String[] {"e", "e5", "e5*", "e5*1", "e5*1*", "e5*1*1", "e5*1*1>", "e5*1>1", "e5>1*1*1",
            "e5*1*1*1", "e5*1*1>11"}) {
            isNoText(text);
        }
        Sentences.says("\"w\", an entry, \"*\", and a weight: like withdraw()");
        runs("w0*1", 1);
        runs("w0*61", 0);
        Fresh.gives("its duty", 454 - 7, Fresh::busy, w -> Fresh.last(Fresh.run(w, "w0*7"), w.account()));
        for (String text : new String[] {"w", "w0", "w0*", "w0>1", "w*1", "w0*0", "w0*1*1", "W0*1"}) {
            isNoText(text);
        }
        Sentences.says("\"x\" likewise: like sendAbroad()");
        runs("x0*60", 1);
        Fresh.gives("its weight", 53, Fresh::busy, w -> Fresh.last(Fresh.run(w, "x0*7"), w.weightOf(0)));
        runs("x0*61", 0);
        isNoText("x0");
        isNoText("x0*0");
        Sentences.says("\"g\" likewise, where the weight can be 0: like weigh()");
        runs("g0*0", 1);
        runs("g0*60", 1);
        Fresh.gives("its charge", 53, Fresh::busy, w -> Fresh.last(Fresh.run(w, "g0*7"), w.charges()));
        runs("g0*61", 0);
        for (String text : new String[] {"g", "g0", "g0*", "g0*00", "g0*01", "g0*1000", "g0>0"}) {
            isNoText(text);
        }
        Sentences.says("\"m\", an entry, \">\", and a chamber: like move()");
        runs("m0>1", 1);
        Fresh.gives("its chamber", 2, Fresh::busy, w -> Fresh.last(Fresh.run(w, "m4>2"), w.chamberOf(4)));
        runs("m0>0", 0);
        for (String text : new String[] {"m", "m0", "m0>", "m0*1", "m0>5", "m0>11"}) {
            isNoText(text);
        }
        Sentences.says("\"l\", \"o\" or \"b\", and a chamber: like lock(), open() and breakSeal()");
        runs("l0;b0;o0", 3);
        runs("b4;o4;l4", 3);
        Fresh.gives("locked", 1, Fresh::busy, w -> Fresh.last(Fresh.run(w, "l3"), Fresh.flag(w.isLocked(3))));
        Fresh.gives("opened", 0, Fresh::busy, w -> Fresh.last(Fresh.run(w, "o4"), Fresh.flag(w.isLocked(4))));
        Fresh.gives("broken", 1, Fresh::busy, w -> Fresh.last(Fresh.run(w, "b4"), Fresh.flag(w.isSealBroken(4))));
        runs("l4", 0);
        runs("o0", 0);
        runs("b0", 0);
        for (String text : new String[] {"l", "o", "b", "l5", "o5", "b5", "l00", "o00", "b00", "l>0", "lob"}) {
            isNoText(text);
        }
        Sentences.says("\"d\" and an amount from 1 to 9999: like deposit()");
        runs("d1;d9999", 2);
        Fresh.gives("its amount", 9999, Fresh::empty, w -> Fresh.last(Fresh.run(w, "d9999"), w.account()));
        for (String text : new String[] {"d", "d0", "d10000", "d01", "d1*1"}) {
            isNoText(text);
        }
        Sentences.says("\"t\" and a number from 1 to 100: like pass()");
        runs("t1;t100", 2);
        Fresh.gives("its days", 100, Fresh::empty, w -> Fresh.last(Fresh.run(w, "t100"), w.day()));
        for (String text : new String[] {"t", "t0", "t101", "t01", "t1>1"}) {
            isNoText(text);
        }
    }

    private static void errorAt(String text, int due) {
        Fresh.gives(text, due, () -> Fresh.after(w -> Fresh.type(w, text)), BondWarehouse::firstError);
    }

    private static void numbers() {
        Sentences.says("A kind is a digit from 0 to 5, a chamber one from 0 to 4, an entry a number from 0 to 59,"
                + " a weight one from 1 to 999, a value one from 1 to 9999");
        for (int kind = 0; kind <= 9; kind++) {
            errorAt("e" + kind + "*", kind <= 5 ? 3 : 1);
        }
        for (int chamber = 0; chamber <= 9; chamber++) {
            errorAt("l" + chamber, chamber <= 4 ? 2 : 1);
            errorAt("m0>" + chamber, chamber <= 4 ? 4 : 3);
            errorAt("e0*1*1>" + chamber, chamber <= 4 ? 8 : 7);
        }
        for (int entry = 0; entry <= 150; entry++) {
            int due = entry <= 59 ? 2 + Integer.toString(entry).length() : entry <= 99 ? 2 : 3;
            errorAt("w" + entry + "*", due);
            errorAt("m" + entry + ">", due);
        }
        int[] weights = {0, 1, 9, 10, 99, 100, 998, 999, 1000, 9999};
        int[] due = {3, 5, 5, 6, 6, 7, 7, 7, 6, 6};
        for (int i = 0; i < weights.length; i++) {
            errorAt("x5*" + weights[i] + ";", due[i]);
        }
        int[] values = {0, 1, 9, 10, 99, 999, 1000, 9999, 10000, 99999};
        int[] dueOfValues = {5, 7, 7, 8, 8, 9, 10, 10, 9, 9};
        for (int i = 0; i < values.length; i++) {
            errorAt("e5*1*" + values[i] + ">", dueOfValues[i]);
        }
        Sentences.says("all without leading zeros");
        errorAt("e00", 2);
        errorAt("e05", 2);
        errorAt("w00", 2);
        errorAt("w05", 2);
        errorAt("w0*01", 3);
        errorAt("e0*1*01", 5);
        errorAt("l00", 2);
        errorAt("l04", 2);
        errorAt("d01", 1);
        errorAt("t01", 1);
        errorAt("g0*01", 4);
        errorAt("g0*00", 4);
    }

    private static void errors() {
        Sentences.says("A character of the buffer is an error if no journal text, however long,"
                + " begins with the characters before it and this character");
        errorAt("", 0);
        errorAt("q", 0);
        errorAt("l", 1);
        errorAt("l0;", 3);
        errorAt("l0;q", 3);
        errorAt("l0;q;q", 3);
        errorAt("l0l0", 2);
        errorAt("l0;;", 3);
        errorAt("l*", 1);
        errorAt("l;", 1);
        String full = "e0*100*1000>0;w0*50;x0*1;g0*0;m59>4;l0;o0;b0;d9999;t100;l0;o";
        errorAt(full, 60);
        errorAt(full.substring(0, 59) + "e", 60);
        errorAt(full.substring(0, 59) + ";", 59);
        errorAt(full.substring(0, 59) + "0", 59);
        for (int code = 33; code <= 126; code++) {
            boolean letter = "ewxgmlobdt".indexOf(code) >= 0;
            errorAt(String.valueOf((char) code), letter ? 1 : 0);
            boolean goesOn = code >= '0' && code <= '9' || code == ';';
            errorAt("d5" + (char) code, goesOn ? 3 : 2);
        }
    }

    private static void state() {
        Sentences.says("The state consists of everything except the buffer, the saved states and the snapshots");
        Fresh.gives("undo leaves the buffer", 4, Fresh::busy, w -> Fresh.last(w.undo(), w.clearText()));
        Fresh.gives("goBack leaves the buffer", 4, Fresh::busy, w -> Fresh.last(w.goBack(0), w.clearText()));
        Fresh.gives("undo does not fill it again", 0, Fresh::busy, w -> {
            Fresh.run(w, "d1");
            w.undo();
            return w.clearText();
        });
        Fresh.gives("goBack leaves the saved states, and saves one", 3, EMPTY, w -> {
            w.keep(0);
            w.deposit(1);
            w.deposit(1);
            w.goBack(0);
            return w.savedStates();
        });
        Fresh.gives("undo leaves the snapshots", 1, EMPTY, w -> {
            w.enter(0, 1, 1, 0);
            w.keep(1);
            w.undo();
            return w.goBack(1);
        });
        Fresh.gives("goBack leaves the other snapshot", 2, EMPTY, w -> {
            w.keep(0);
            w.enter(0, 1, 1, 0);
            w.enter(0, 1, 1, 0);
            w.keep(1);
            w.goBack(0);
            return w.goBack(1);
        });
        Supplier<BondWarehouse> changed = () -> Fresh.busyAfter(w -> {
            w.keep(1);
            w.setRateByValue(0, 1);
            w.setRateByWeight(0, 1);
            w.setBond(50000);
            w.pass(1);
            w.lock(0);
            w.drawBack(0, 1);
            w.weigh(3, 1);
            w.goBack(1);
        });
        Check.compare("all else comes back", Told.of(Fresh.busy()), Told.of(changed.get()));
        Fresh.gives("the next seal, too", 2, changed, w -> w.lock(0));
        Fresh.gives("the next number, too", 5, changed, w -> w.enter(0, 1, 1, 0));
    }

    private static void saving() {
        Sentences.says("Each method that is marked \"Undoable\" saves the state from before the call"
                + " if it does not throw an exception, even if nothing changes");
        Fresh.Call[] idle = {w -> w.setBond(5000), w -> w.setRateByValue(0, 10), w -> w.setRateByWeight(0, 0),
            w -> w.weigh(4, 20), w -> w.goBack(1), w -> Fresh.run(w, "l4")};
        for (int i = 0; i < idle.length; i++) {
            Fresh.saves("idle call " + i, () -> Fresh.after(w -> {
                w.deposit(500);
                for (int n = 0; n < 5; n++) {
                    w.enter(0, 20, 20, 0);
                }
                w.lock(4);
                w.keep(1);
                while (w.savedStates() > 0) {
                    w.undo();
                }
                w.goBack(1);
            }), idle[i]);
        }
        Fresh.refuses("a refused call", Check.ARGUMENT, Fresh::busy, w -> w.deposit(0));
        Sentences.says("At most 6 states are saved");
        Fresh.gives("six calls", 6, EMPTY, w -> deposits(w, 6));
        Fresh.gives("seven calls", 6, EMPTY, w -> deposits(w, 7));
        Fresh.gives("nineteen calls", 6, EMPTY, w -> deposits(w, 19));
        Sentences.says("when one more is saved, the oldest one is discarded");
        for (int calls = 6; calls <= 19; calls++) {
            int made = calls;
            Fresh.gives("the oldest after " + made, made - 6, EMPTY, w -> {
                deposits(w, made);
                for (int i = 0; i < 6; i++) {
                    w.undo();
                }
                return w.account();
            });
            Fresh.refuses("a seventh undo after " + made, Check.STATE, () -> Fresh.after(w -> {
                deposits(w, made);
                for (int i = 0; i < 6; i++) {
                    w.undo();
                }
            }), BondWarehouse::undo);
        }
    }

    private static int deposits(BondWarehouse w, int count) {
        for (int i = 0; i < count; i++) {
            w.deposit(1);
        }
        return w.savedStates();
    }

    private static void slots() {
        Sentences.says("There are two snapshot slots, 0 and 1, which are empty at first");
        for (int slot = 0; slot < 2; slot++) {
            int s = slot;
            Fresh.refuses("back to " + s, Check.STATE, EMPTY, w -> w.goBack(s));
            Fresh.refuses("back to " + s + " with the other one filled", Check.STATE,
                    () -> Fresh.after(w -> w.keep(1 - s)), w -> w.goBack(s));
            Fresh.gives("kept", 0, EMPTY, w -> Fresh.last(w.keep(s), w.goBack(s)));
        }
        Fresh.refusesEach("kept", Check.INDEX, Fresh.outside(0, 1), EMPTY, BondWarehouse::keep);
        Fresh.refusesEach("back", Check.INDEX, Fresh.outside(0, 1), EMPTY, BondWarehouse::goBack);
    }

    private static void exceptions() {
        Sentences.says("A call that throws an exception changes nothing");
        Fresh.refuses("an argument", Check.ARGUMENT, Fresh::busy, w -> w.enter(0, 1000, 1, 0));
        Fresh.refuses("an index", Check.INDEX, Fresh::busy, w -> w.withdraw(2, 1));
        Fresh.refuses("a state", Check.STATE, Fresh::busy, w -> w.sendAbroad(0, 61));
        Fresh.refuses("a text", Check.ARGUMENT, Fresh::busy, BondWarehouse::run);
        Sentences.says("If more than one exception applies to a call,"
                + " the one that is listed first in its throws clause is thrown");
        Fresh.refuses("no entry, no weight", Check.INDEX, Fresh::busy, w -> w.withdraw(2, 0));
        Fresh.refuses("no weight, and locked", Check.ARGUMENT, () -> Fresh.busyAfter(w -> w.lock(0)),
                w -> w.withdraw(0, 0));
        Fresh.refuses("no weight, and locked", Check.ARGUMENT, Fresh::busy, w -> w.enter(0, 0, 1, 4));
        Sentences.says("\"There is no such entry\" means that no open entry has this number");
        Fresh.refusesEach("its weight", Check.INDEX, Fresh.NO_ENTRIES, Fresh::busy, BondWarehouse::weightOf);
        for (int entry : new int[] {0, 1, 3, 4}) {
            Fresh.gives("an open one", 1, Fresh::busy, w -> Fresh.flag(w.weightOf(entry) > 0));
        }
    }

    private static void constants() {
        Sentences.says("The constants: `NONE = -1`: There is no such number");
        Check.is("NONE", -1, () -> BondWarehouse.NONE);
    }
}
