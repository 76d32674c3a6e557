import java.util.function.Supplier;

/** Warehouses for tests, made anew for each call; and checks of single calls on them. */
final class Fresh {
    /** Numbers that no open entry of busy() has: 2 is closed, 5 is not made yet. */
    static final int[] NO_ENTRIES = {Integer.MIN_VALUE, -1, 2, 5, 59, 60, Integer.MAX_VALUE};
    /** Receipts that busy() does not keep: it keeps two. */
    static final int[] NO_RECEIPTS = {Integer.MIN_VALUE, -1, 2, 11, 12, Integer.MAX_VALUE};
    static final int[] NO_CHAMBERS = {Integer.MIN_VALUE, -1, 5, Integer.MAX_VALUE};
    static final int[] NO_KINDS = {Integer.MIN_VALUE, -1, 6, Integer.MAX_VALUE};

    /** A call on a warehouse; a boolean counts 1 or 0. */
    interface Call {
        int on(BondWarehouse w);
    }

    /** Steps that bring a warehouse where a test wants it. */
    interface Steps {
        void on(BondWarehouse w);
    }

    /** A call with one number, most often that of an entry. */
    interface Asking {
        int on(BondWarehouse w, int number);
    }

    private Fresh() {
    }

    static int flag(boolean answer) {
        return answer ? 1 : 0;
    }

    /** Calls that are made one after the other; only what the last one answers counts. */
    static int last(int... answers) {
        return answers[answers.length - 1];
    }

    /** What lies just outside of a range, and far outside. */
    static int[] outside(int least, int most) {
        return new int[] {Integer.MIN_VALUE, least - 1, most + 1, Integer.MAX_VALUE};
    }

    static BondWarehouse empty() {
        return new BondWarehouse();
    }

    /**
     * The day 16; the entries 0 (kind 0, 60 kg), 1 (kind 1, 200 kg), 3 (kind 4, 290 kg) and 4 (kind 0, 20 kg) in the
     * chambers 0, 1, 3 and 3; 2 is closed; the chamber 4 is locked; two receipts, a snapshot, and a buffer with "e0*1".
     */
    static BondWarehouse busy() {
        BondWarehouse w = new BondWarehouse();
        w.deposit(500);
        w.enter(0, 100, 1000, 0);
        w.enter(1, 200, 900, 1);
        w.enter(2, 50, 500, 2);
        w.enter(4, 300, 600, 3);
        w.enter(0, 20, 50, 3);
        w.withdraw(0, 40);
        w.sendAbroad(2, 50);
        w.keep(0);
        w.pass(15);
        w.withdraw(3, 10);
        w.lock(4);
        type(w, "e0*1");
        w.pass(1);
        return w;
    }

    static BondWarehouse after(Steps steps) {
        BondWarehouse w = new BondWarehouse();
        steps.on(w);
        return w;
    }

    static BondWarehouse busyAfter(Steps steps) {
        BondWarehouse w = busy();
        steps.on(w);
        return w;
    }

    static void type(BondWarehouse w, String text) {
        for (int i = 0; i < text.length(); i++) {
            w.append(text.charAt(i));
        }
    }

    static int run(BondWarehouse w, String text) {
        w.clearText();
        type(w, text);
        return w.run();
    }

    static void pass(BondWarehouse w, int days) {
        for (int left = days; left > 0; left -= 100) {
            w.pass(Math.min(left, 100));
        }
    }

    /** The entries of a chamber are not proved afterwards. */
    static void openBroken(BondWarehouse w, int chamber) {
        w.lock(chamber);
        w.breakSeal(chamber);
        w.open(chamber);
    }

    /** Charges ten crowns more than the account has, for goods that are lost; they take a number. */
    static void makeDebt(BondWarehouse w) {
        int entry = w.enter(0, 1, 100 + 10 * w.account(), 2);
        w.weigh(entry, 0);
    }

    static void gives(String call, long due, Supplier<BondWarehouse> make, Call made) {
        BondWarehouse w = make.get();
        Check.is(call, due, () -> made.on(w));
    }

    /** The call throws just this, and leaves the warehouse as one that was made alike and not called. */
    static void refuses(String call, Class<? extends RuntimeException> due, Supplier<BondWarehouse> make, Call made) {
        BondWarehouse called = make.get();
        Check.refuses(call, due, () -> made.on(called));
        same("what is there after " + call, make.get(), called);
    }

    static void refusesEach(String call, Class<? extends RuntimeException> due, int[] numbers,
            Supplier<BondWarehouse> make, Asking made) {
        for (int number : numbers) {
            refuses(call + " with " + number, due, make, w -> made.on(w, number));
        }
    }

    /** A call that only asks: what is there is as in a warehouse that was not asked. */
    static void changesNothing(String call, Supplier<BondWarehouse> make, Call made) {
        BondWarehouse called = make.get();
        made.on(called);
        same("what is there after " + call, make.get(), called);
    }

    /** The call answers, saves one state, and undo brings back what was there. */
    static void saves(String call, Supplier<BondWarehouse> make, Call made) {
        BondWarehouse called = make.get();
        int before = called.savedStates();
        String told = Told.of(called);
        Check.is(call + " answers", 1, () -> flag(made.on(called) >= 0));
        Check.is("saved by " + call, Math.min(6, before + 1), called::savedStates);
        Check.is("left after undo of " + call, Math.min(5, before), called::undo);
        Check.compare("what undo brings back from " + call, told, Told.of(called));
    }

    /** Nothing is different, the saved states, the snapshots and the buffer among it; both are used up. */
    static void same(String what, BondWarehouse due, BondWarehouse got) {
        Check.compare(what, whole(due), whole(got));
    }

    private static String whole(BondWarehouse w) {
        StringBuilder text = new StringBuilder(Told.of(w));
        text.append("saved ").append(w.savedStates()).append(" buffer ").append(w.firstError());
        text.append(' ').append(w.clearText()).append(" seal ").append(nextSeal(w)).append('\n');
        for (int left = w.savedStates(); left > 0; left--) {
            text.append("undo ").append(w.undo());
            brief(text, w);
        }
        for (int slot = 0; slot < 2; slot++) {
            text.append("slot ").append(slot).append(": ").append(back(w, slot));
            brief(text, w);
        }
        return text.toString();
    }

    private static int nextSeal(BondWarehouse w) {
        for (int chamber = 0; chamber < 5; chamber++) {
            if (!w.isLocked(chamber)) {
                int seal = w.lock(chamber);
                w.undo();
                return seal;
            }
        }
        return BondWarehouse.NONE;
    }

    private static String back(BondWarehouse w, int slot) {
        try {
            return Integer.toString(w.goBack(slot));
        } catch (IllegalStateException e) {
            return "empty";
        }
    }

    private static void brief(StringBuilder text, BondWarehouse w) {
        text.append(" day ").append(w.day()).append(" open ").append(w.entries());
        text.append(" made ").append(w.entriesMade()).append(" stake ").append(w.dutyAtStake());
        text.append(" bond ").append(w.bond()).append(" balance ").append(w.balance());
        text.append(" receipts ").append(w.receipts()).append(" rooms");
        for (int chamber = 0; chamber < 5; chamber++) {
            text.append(' ').append(w.roomIn(chamber)).append(' ').append(w.sealOf(chamber));
        }
        text.append('\n');
    }
}
