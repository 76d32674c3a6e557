/**
 * A bonded warehouse of the customs. What every call answers is told, promise by promise, in the
 * project's document; README.md tells how this file is laid out.
 */
public final class BondWarehouse {

    /** There is no such number. */
    public static final int NONE = -1;

    private static final int KINDS = 6;
    private static final int CHAMBERS = 5;
    private static final int MOST_OPEN = 16;
    private static final int MOST_MADE = 60;
    private static final int MOST_RECEIPTS = 12;
    private static final int CHAMBER_ROOM = 2000;
    private static final int MOST_WEIGHT = 999;
    private static final int MOST_VALUE = 9999;
    private static final int MOST_ASKED = 9999;
    private static final int MOST_DEPOSIT = 9999;
    private static final int MOST_ACCOUNT = 99999;
    private static final int MOST_BOND = 50000;
    private static final int MOST_PERCENT = 60;
    private static final int MOST_CROWNS = 80;
    private static final int MOST_DAYS = 100;
    private static final int MOST_DAYS_AHEAD = 365;
    private static final int LAST_DAY = 9999;
    private static final int OVERDUE_AFTER = 200;
    private static final int DRAWBACK_UNTIL = 60;
    private static final int MOST_SIGNS = 60;
    private static final int FIRST_CODE = 33;
    private static final int LAST_CODE = 126;
    private static final int MOST_SAVED = 6;
    private static final int SLOTS = 2;

    private static final int[] FIRST_RATES_BY_VALUE = {10, 20, 5, 0, 30, 15};
    private static final int[] FIRST_RATES_BY_WEIGHT = {0, 10, 25, 40, 0, 5};
    private static final int[] WASTE_RATES = {0, 5, 10, 2, 20, 0};

    // A deed that is refused answers one of these; what a deed answers else is never negative.
    private static final int NOT_THERE = -1;
    private static final int OUT_OF_RANGE = -2;
    private static final int NOT_NOW = -3;

    private final State state = new State();
    private final History history = new History();
    private final Deeds deeds = new Deeds(state, history);
    private final Journal journal = new Journal();

    public BondWarehouse() {
    }

    // ---- goods come, go, and are handled

    public int enter(int kind, int weight, int value, int chamber)
            throws IllegalArgumentException, IllegalStateException {
        return answer(deeds.bringIn(kind, weight, value, chamber));
    }

    public int withdraw(int entry, int weight)
            throws IndexOutOfBoundsException, IllegalArgumentException, IllegalStateException {
        return answer(deeds.takeIntoCountry(entry, weight));
    }

    public int sendAbroad(int entry, int weight)
            throws IndexOutOfBoundsException, IllegalArgumentException, IllegalStateException {
        return answer(deeds.takeAbroad(entry, weight));
    }

    public int drawBack(int receipt, int weight)
            throws IndexOutOfBoundsException, IllegalArgumentException, IllegalStateException {
        return answer(deeds.payBack(receipt, weight));
    }

    public int move(int entry, int chamber) throws IndexOutOfBoundsException, IllegalStateException {
        return answer(deeds.carryOver(entry, chamber));
    }

    public int split(int entry, int weight)
            throws IndexOutOfBoundsException, IllegalArgumentException, IllegalStateException {
        return answer(deeds.partOff(entry, weight));
    }

    public int merge(int entry, int merged)
            throws IndexOutOfBoundsException, IllegalArgumentException, IllegalStateException {
        return answer(deeds.join(entry, merged));
    }

    public int weigh(int entry, int found)
            throws IndexOutOfBoundsException, IllegalArgumentException, IllegalStateException {
        return answer(deeds.putOnScales(entry, found));
    }

    // ---- chambers

    public int lock(int chamber) throws IndexOutOfBoundsException, IllegalStateException {
        return answer(deeds.putSeal(chamber));
    }

    public int open(int chamber) throws IndexOutOfBoundsException, IllegalStateException {
        return answer(deeds.takeSealOff(chamber));
    }

    public int breakSeal(int chamber) throws IndexOutOfBoundsException, IllegalStateException {
        return answer(deeds.damageSeal(chamber));
    }

    // ---- money, rates, time

    public int deposit(int amount) throws IllegalArgumentException, IllegalStateException {
        return answer(deeds.payIn(amount));
    }

    public int setBond(int bond) throws IllegalArgumentException, IllegalStateException {
        return answer(deeds.changeBond(bond));
    }

    public int setRateByValue(int kind, int percent) throws IllegalArgumentException {
        return answer(deeds.changeRateByValue(kind, percent));
    }

    public int setRateByWeight(int kind, int crowns) throws IllegalArgumentException {
        return answer(deeds.changeRateByWeight(kind, crowns));
    }

    public int pass(int days) throws IllegalArgumentException, IllegalStateException {
        return answer(deeds.letPass(days));
    }

    // ---- entries: queries

    public int day() {
        return state.day;
    }

    public int entries() {
        return state.openCount;
    }

    public int entriesMade() {
        return state.made;
    }

    public boolean isOpenEntry(int number) {
        return state.findEntry(number) != null;
    }

    public int entryAt(int rank) throws IndexOutOfBoundsException {
        if (!isWithin(rank, 0, state.openCount - 1)) {
            throw new IndexOutOfBoundsException("there are not so many entries");
        }
        return state.entries[rank].number;
    }

    public int kindOf(int entry) throws IndexOutOfBoundsException {
        return entryNumbered(entry).kind;
    }

    public int weightOf(int entry) throws IndexOutOfBoundsException {
        return entryNumbered(entry).weight;
    }

    public int valueOf(int entry) throws IndexOutOfBoundsException {
        return entryNumbered(entry).value;
    }

    public int chamberOf(int entry) throws IndexOutOfBoundsException {
        return entryNumbered(entry).chamber;
    }

    public int ageOf(int entry) throws IndexOutOfBoundsException {
        return state.ageNow(entryNumbered(entry));
    }

    public boolean isProved(int entry) throws IndexOutOfBoundsException {
        return entryNumbered(entry).proved;
    }

    public boolean isOverdue(int entry) throws IndexOutOfBoundsException {
        return state.isLate(entryNumbered(entry));
    }

    public int dutyOfPart(int entry, int weight) throws IndexOutOfBoundsException, IllegalArgumentException {
        Entry e = entryNumbered(entry);
        requireWithin(weight, 1, e.weight);
        return state.dutyNow(e, weight);
    }

    public int dutyOf(int entry) throws IndexOutOfBoundsException {
        Entry e = entryNumbered(entry);
        return state.wholeDuty(e, state.ageNow(e));
    }

    public int allowedWaste(int entry) throws IndexOutOfBoundsException {
        return state.wasteAllowedNow(entryNumbered(entry));
    }

    public double meanDuty() {
        if (state.openCount <= 0) {
            return 0.0;
        }
        return (double) state.stake() / (double) state.openCount;
    }

    // ---- chambers: queries

    public boolean isLocked(int chamber) throws IndexOutOfBoundsException {
        return chamberNumbered(chamber).isSealed();
    }

    public int sealOf(int chamber) throws IndexOutOfBoundsException {
        return chamberNumbered(chamber).seal;
    }

    public boolean isSealBroken(int chamber) throws IndexOutOfBoundsException {
        return chamberNumbered(chamber).broken;
    }

    public int entriesIn(int chamber) throws IndexOutOfBoundsException {
        requireChamber(chamber);
        return state.countIn(chamber);
    }

    public int roomIn(int chamber) throws IndexOutOfBoundsException {
        requireChamber(chamber);
        return state.roomLeft(chamber);
    }

    // ---- receipts: queries

    public int receipts() {
        return state.receiptCount;
    }

    public int receiptKind(int receipt) throws IndexOutOfBoundsException {
        return receiptBack(receipt).kind;
    }

    public int receiptWeight(int receipt) throws IndexOutOfBoundsException {
        return receiptBack(receipt).weight;
    }

    public int receiptDuty(int receipt) throws IndexOutOfBoundsException {
        return receiptBack(receipt).duty;
    }

    public int receiptAge(int receipt) throws IndexOutOfBoundsException {
        return state.day - receiptBack(receipt).dayMade;
    }

    // ---- rates and money: queries

    public int rateByValue(int kind) throws IllegalArgumentException {
        return accountOfKind(kind).byValue;
    }

    public int rateByWeight(int kind) throws IllegalArgumentException {
        return accountOfKind(kind).byWeight;
    }

    public int bond() {
        return state.money.bond;
    }

    public int dutyAtStake() {
        return state.stake();
    }

    public int account() {
        return state.money.account;
    }

    public int debt() {
        return state.money.debt;
    }

    public int balance() {
        return state.money.account - state.money.debt;
    }

    public int balanceByTotals() {
        Money m = state.money;
        return m.deposits + m.drawbacks - m.dutiesPaid - m.charges;
    }

    public int deposits() {
        return state.money.deposits;
    }

    public int dutiesPaid() {
        return state.money.dutiesPaid;
    }

    public int charges() {
        return state.money.charges;
    }

    public int drawbacks() {
        return state.money.drawbacks;
    }

    // ---- weights: queries

    public int entered(int kind) throws IllegalArgumentException {
        return accountOfKind(kind).entered;
    }

    public int withdrawn(int kind) throws IllegalArgumentException {
        return accountOfKind(kind).withdrawn;
    }

    public int sentAbroad(int kind) throws IllegalArgumentException {
        return accountOfKind(kind).sentAbroad;
    }

    public int wasted(int kind) throws IllegalArgumentException {
        return accountOfKind(kind).wasted;
    }

    public int lost(int kind) throws IllegalArgumentException {
        return accountOfKind(kind).lost;
    }

    public int drawnBack(int kind) throws IllegalArgumentException {
        return accountOfKind(kind).drawnBack;
    }

    public int stockByEntries(int kind) throws IllegalArgumentException {
        requireWithin(kind, 0, KINDS - 1);
        return state.stockOf(kind);
    }

    public int stockByTotals(int kind) throws IllegalArgumentException {
        KindAccount k = accountOfKind(kind);
        return k.entered - k.withdrawn - k.sentAbroad - k.wasted - k.lost;
    }

    // ---- reasons; they change nothing

    public int whyNoEntry(int kind, int weight, int value, int chamber) throws IllegalArgumentException {
        if (!areGoods(kind, weight, value, chamber)) {
            throw new IllegalArgumentException("out of range");
        }
        return state.reasonAgainstEntry(kind, weight, value, chamber);
    }

    public int whyNoWithdrawal(int entry, int weight) throws IndexOutOfBoundsException, IllegalArgumentException {
        Entry e = entryNumbered(entry);
        requireWithin(weight, 1, MOST_WEIGHT);
        return state.reasonAgainstWithdrawal(e, weight);
    }

    public int whyNoExport(int entry, int weight) throws IndexOutOfBoundsException, IllegalArgumentException {
        Entry e = entryNumbered(entry);
        requireWithin(weight, 1, MOST_WEIGHT);
        return state.reasonAgainstExport(e, weight);
    }

    public int whyNoMove(int entry, int chamber) throws IndexOutOfBoundsException {
        Entry e = entryNumbered(entry);
        requireChamber(chamber);
        return state.reasonAgainstMove(e, chamber);
    }

    public int whyNoDrawback(int receipt, int weight) throws IndexOutOfBoundsException, IllegalArgumentException {
        Receipt r = receiptBack(receipt);
        requireWithin(weight, 1, MOST_WEIGHT);
        return state.reasonAgainstDrawback(r, weight);
    }

    // ---- what would be; nothing changes

    public int chargeIfWeighed(int entry, int found) throws IndexOutOfBoundsException, IllegalArgumentException {
        Entry e = entryNumbered(entry);
        requireWithin(found, 0, e.weight);
        return state.chargeFor(e, state.lossIf(e, found));
    }

    public int drawbackFor(int receipt, int weight) throws IndexOutOfBoundsException, IllegalArgumentException {
        Receipt r = receiptBack(receipt);
        requireWithin(weight, 1, r.weight);
        return paidBackOf(r.dutyPart(weight));
    }

    public int dutyLater(int entry, int days) throws IndexOutOfBoundsException, IllegalArgumentException {
        Entry e = entryNumbered(entry);
        requireWithin(days, 0, MOST_DAYS_AHEAD);
        return state.wholeDuty(e, state.ageNow(e) + days);
    }

    public int daysToOverdue(int entry) throws IndexOutOfBoundsException {
        return Math.max(0, OVERDUE_AFTER + 1 - state.ageNow(entryNumbered(entry)));
    }

    public int nextOverdue() {
        return state.numberAt(state.nextLate());
    }

    public int cheapestEntry(int kind) throws IllegalArgumentException {
        requireWithin(kind, 0, KINDS - 1);
        state.tellDuties();
        return state.numberAt(state.cheapestBehind(NONE, kind));
    }

    public int dutyFromCheapest(int kind, int weight) throws IllegalArgumentException {
        requireWithin(kind, 0, KINDS - 1);
        requireWithin(weight, 1, MOST_ASKED);
        return state.dutyOfCheapest(kind, weight);
    }

    public int dearestEntry() {
        return state.numberAt(state.dearest());
    }

    // ---- journal text

    public int append(int code) throws IllegalArgumentException, IllegalStateException {
        requireWithin(code, FIRST_CODE, LAST_CODE);
        if (journal.length >= MOST_SIGNS) {
            throw new IllegalStateException("the buffer is full");
        }
        return journal.add(code);
    }

    public int clearText() {
        return journal.wipe();
    }

    public int firstError() {
        return journal.firstWrong();
    }

    public int run() throws IllegalArgumentException {
        if (!journal.isComplete()) {
            throw new IllegalArgumentException("the buffer is not a complete journal text");
        }
        history.save(state);
        history.paused = true;
        int done = 0;
        boolean refused = false;
        journal.startLine();
        for (int i = 0; i < journal.length && !refused; i++) {
            journal.reads(journal.codes[i]);
            if (journal.isLastOfLine(i)) {
                refused = deeds.carryOutLine(journal.letter, journal.numbers) < 0;
                done = done + (refused ? 0 : 1);
            }
        }
        history.paused = false;
        journal.wipe();
        return done;
    }

    // ---- undo and snapshots

    public int undo() throws IllegalStateException {
        if (history.count <= 0) {
            throw new IllegalStateException("no state is saved");
        }
        history.restoreLast(state);
        return history.count;
    }

    public int savedStates() {
        return history.count;
    }

    public int keep(int slot) throws IndexOutOfBoundsException {
        requireSlot(slot);
        history.fillSlot(slot, state);
        return state.openCount;
    }

    public int goBack(int slot) throws IndexOutOfBoundsException, IllegalStateException {
        requireSlot(slot);
        if (!history.isFilled[slot]) {
            throw new IllegalStateException("the slot is empty");
        }
        history.save(state);
        state.copyFrom(history.slots[slot]);
        return state.openCount;
    }

    // ---- what the calls above share

    private static boolean isWithin(int number, int least, int most) {
        return number >= least && number <= most;
    }

    private static boolean areGoods(int kind, int weight, int value, int chamber) {
        return isWithin(kind, 0, KINDS - 1) && isWithin(weight, 1, MOST_WEIGHT)
                && isWithin(value, 1, MOST_VALUE) && isWithin(chamber, 0, CHAMBERS - 1);
    }

    private static int paidBackOf(int dutyPart) {
        return dutyPart * 9 / 10;
    }

    private static int answer(int outcome) {
        if (outcome == NOT_THERE) {
            throw new IndexOutOfBoundsException("there is no such entry, receipt or chamber");
        }
        if (outcome == OUT_OF_RANGE) {
            throw new IllegalArgumentException("out of range");
        }
        if (outcome == NOT_NOW) {
            throw new IllegalStateException("this cannot be done now");
        }
        return outcome;
    }

    private static void requireWithin(int number, int least, int most) {
        if (!isWithin(number, least, most)) {
            throw new IllegalArgumentException("out of range");
        }
    }

    private static void requireChamber(int chamber) {
        if (!isWithin(chamber, 0, CHAMBERS - 1)) {
            throw new IndexOutOfBoundsException("there is no such chamber");
        }
    }

    private static void requireSlot(int slot) {
        if (!isWithin(slot, 0, SLOTS - 1)) {
            throw new IndexOutOfBoundsException("there is no such slot");
        }
    }

    private Entry entryNumbered(int number) {
        Entry e = state.findEntry(number);
        if (e == null) {
            throw new IndexOutOfBoundsException("there is no such entry");
        }
        return e;
    }

    private Receipt receiptBack(int rank) {
        Receipt r = state.findReceipt(rank);
        if (r == null) {
            throw new IndexOutOfBoundsException("not so many receipts are kept");
        }
        return r;
    }

    private Chamber chamberNumbered(int chamber) {
        requireChamber(chamber);
        return state.chambers[chamber];
    }

    private KindAccount accountOfKind(int kind) {
        requireWithin(kind, 0, KINDS - 1);
        return state.kinds[kind];
    }

    /** Goods of a kind in a chamber. */
    private static final class Entry {
        private int number;
        private int kind;
        private int weight;
        private int value;
        private int chamber;
        private int dayEntered;
        private int dayWeighed;
        private boolean proved;

        private void copyFrom(Entry other) {
            number = other.number;
            kind = other.kind;
            weight = other.weight;
            value = other.value;
            chamber = other.chamber;
            dayEntered = other.dayEntered;
            dayWeighed = other.dayWeighed;
            proved = other.proved;
        }

        private int shareOf(int part) {
            if (weight <= 0) {
                return 0;
            }
            return value * part / weight;
        }

        private void losePart(int part) {
            // the share is told by the weight from before the loss
            value = value - shareOf(part);
            weight = weight - part;
        }

        private void takeIn(Entry other) {
            weight = weight + other.weight;
            value = value + other.value;
            dayEntered = Math.min(dayEntered, other.dayEntered);
            dayWeighed = Math.max(dayWeighed, other.dayWeighed);
            other.weight = 0;
        }
    }

    /** What was paid for goods that left into the country, as far as it was not paid back. */
    private static final class Receipt {
        private int kind;
        private int weight;
        private int duty;
        private int dayMade;

        private void copyFrom(Receipt other) {
            kind = other.kind;
            weight = other.weight;
            duty = other.duty;
            dayMade = other.dayMade;
        }

        private int dutyPart(int part) {
            if (weight <= 0) {
                return 0;
            }
            return duty * part / weight;
        }
    }

    /** A chamber has a seal as long as it is locked. */
    private static final class Chamber {
        private int seal = NONE;
        private boolean broken;

        private void copyFrom(Chamber other) {
            seal = other.seal;
            broken = other.broken;
        }

        private boolean isSealed() {
            return seal != NONE;
        }
    }

    /** The rates of a kind, and its weights so far. */
    private static final class KindAccount {
        private int byValue;
        private int byWeight;
        private int entered;
        private int withdrawn;
        private int sentAbroad;
        private int wasted;
        private int lost;
        private int drawnBack;

        private KindAccount(int byValue, int byWeight) {
            this.byValue = byValue;
            this.byWeight = byWeight;
        }

        private void copyFrom(KindAccount other) {
            byValue = other.byValue;
            byWeight = other.byWeight;
            entered = other.entered;
            withdrawn = other.withdrawn;
            sentAbroad = other.sentAbroad;
            wasted = other.wasted;
            lost = other.lost;
            drawnBack = other.drawnBack;
        }

        private int dutyOn(int share, int weight, int age) {
            // 99 and 9 more before the division: these three are rounded up
            int sum = (share * byValue + 99) / 100 + (weight * byWeight + 99) / 100;
            return age > OVERDUE_AFTER ? sum + (sum + 9) / 10 : sum;
        }
    }

    /** The bond, the account, the debt, and the sums so far. */
    private static final class Money {
        private int bond = 5000;
        private int account;
        private int debt;
        private int deposits;
        private int dutiesPaid;
        private int charges;
        private int drawbacks;

        private void copyFrom(Money other) {
            bond = other.bond;
            account = other.account;
            debt = other.debt;
            deposits = other.deposits;
            dutiesPaid = other.dutiesPaid;
            charges = other.charges;
            drawbacks = other.drawbacks;
        }

        private int accountAfter(int amount) {
            return account + amount - Math.min(debt, amount);
        }

        private void takeDeposit(int amount) {
            account = accountAfter(amount);
            debt = debt - Math.min(debt, amount);
            deposits = deposits + amount;
        }

        private void takeDuty(int duty) {
            account = account - duty;
            dutiesPaid = dutiesPaid + duty;
        }

        private void takeCharge(int charge) {
            int paid = Math.min(account, charge);
            account = account - paid;
            debt = debt + charge - paid;
            charges = charges + charge;
        }

        private void giveDrawback(int crowns) {
            account = account + crowns;
            drawbacks = drawbacks + crowns;
        }
    }

    /**
     * All that undo and snapshots bring back. Its rows are made once and used again: the open
     * entries stand first in theirs, in the order of their numbers, the latest receipt first in its.
     */
    private static final class State {
        private int day;
        private int openCount;
        private int made;
        private int sealsPut;
        private int receiptCount;
        private final Money money = new Money();
        private final Entry[] entries = new Entry[MOST_OPEN];
        private final Receipt[] receipts = new Receipt[MOST_RECEIPTS];
        private final Chamber[] chambers = new Chamber[CHAMBERS];
        private final KindAccount[] kinds = new KindAccount[KINDS];
        // duties of the open entries while a search goes on: no part of the state, never copied
        private final int[] duties = new int[MOST_OPEN];

        private State() {
            for (int i = 0; i < MOST_OPEN; i++) {
                entries[i] = new Entry();
            }
            for (int i = 0; i < MOST_RECEIPTS; i++) {
                receipts[i] = new Receipt();
            }
            for (int i = 0; i < CHAMBERS; i++) {
                chambers[i] = new Chamber();
            }
            for (int i = 0; i < KINDS; i++) {
                kinds[i] = new KindAccount(FIRST_RATES_BY_VALUE[i], FIRST_RATES_BY_WEIGHT[i]);
            }
        }

        private void copyFrom(State other) {
            day = other.day;
            openCount = other.openCount;
            made = other.made;
            sealsPut = other.sealsPut;
            receiptCount = other.receiptCount;
            money.copyFrom(other.money);
            for (int i = 0; i < openCount; i++) {
                entries[i].copyFrom(other.entries[i]);
            }
            for (int i = 0; i < receiptCount; i++) {
                receipts[i].copyFrom(other.receipts[i]);
            }
            for (int i = 0; i < CHAMBERS; i++) {
                chambers[i].copyFrom(other.chambers[i]);
            }
            for (int i = 0; i < KINDS; i++) {
                kinds[i].copyFrom(other.kinds[i]);
            }
        }

        // ---- rows

        private Entry findEntry(int number) {
            for (int i = 0; i < openCount; i++) {
                if (entries[i].number == number) {
                    return entries[i];
                }
            }
            return null;
        }

        private Receipt findReceipt(int rank) {
            return isWithin(rank, 0, receiptCount - 1) ? receipts[rank] : null;
        }

        private int numberAt(int place) {
            return isWithin(place, 0, openCount - 1) ? entries[place].number : NONE;
        }

        private boolean hasPlace() {
            return openCount < MOST_OPEN && made < MOST_MADE;
        }

        /** The next entry, for the caller to fill; hasPlace() comes first. */
        private Entry addEntry() {
            Entry e = entries[openCount];
            e.number = made;
            openCount = openCount + 1;
            made = made + 1;
            return e;
        }

        /** An entry without weight goes behind the open ones, where it can be used again. */
        private void closeIfEmpty(Entry gone) {
            if (gone.weight > 0) {
                return;
            }
            for (int i = 0; i + 1 < openCount; i++) {
                if (entries[i] == gone) {
                    entries[i] = entries[i + 1];
                    entries[i + 1] = gone;
                }
            }
            openCount = openCount - 1;
        }

        /** The next receipt, for the caller to fill; it takes the object of the oldest one. */
        private Receipt addReceipt() {
            Receipt r = receipts[MOST_RECEIPTS - 1];
            for (int i = MOST_RECEIPTS - 1; i > 0; i--) {
                receipts[i] = receipts[i - 1];
            }
            receipts[0] = r;
            receiptCount = Math.min(MOST_RECEIPTS, receiptCount + 1);
            return r;
        }

        // ---- ages, duties, weights

        private int ageNow(Entry e) {
            return day - e.dayEntered;
        }

        private boolean isLate(Entry e) {
            return ageNow(e) > OVERDUE_AFTER;
        }

        private int dutyNow(Entry e, int part) {
            return kinds[e.kind].dutyOn(e.shareOf(part), part, ageNow(e));
        }

        private int wholeDuty(Entry e, int age) {
            return kinds[e.kind].dutyOn(e.value, e.weight, age);
        }

        private int stake() {
            int sum = 0;
            for (int i = 0; i < openCount; i++) {
                sum = sum + wholeDuty(entries[i], ageNow(entries[i]));
            }
            return sum;
        }

        private int wasteAllowedNow(Entry e) {
            int tenDays = (day - e.dayWeighed) / 10;
            return Math.min(e.weight, e.weight * WASTE_RATES[e.kind] * tenDays / 1000);
        }

        private int lossIf(Entry e, int found) {
            return Math.max(0, e.weight - found - wasteAllowedNow(e));
        }

        private int chargeFor(Entry e, int loss) {
            int duty = dutyNow(e, loss);
            return e.proved ? duty : 2 * duty;
        }

        private int countIn(int chamber) {
            int count = 0;
            for (int i = 0; i < openCount; i++) {
                if (entries[i].chamber == chamber) {
                    count++;
                }
            }
            return count;
        }

        private int roomLeft(int chamber) {
            int room = CHAMBER_ROOM;
            for (int i = 0; i < openCount; i++) {
                if (entries[i].chamber == chamber) {
                    room = room - entries[i].weight;
                }
            }
            return room;
        }

        private int stockOf(int kind) {
            int stock = 0;
            for (int i = 0; i < openCount; i++) {
                if (entries[i].kind == kind) {
                    stock = stock + entries[i].weight;
                }
            }
            return stock;
        }

        // ---- reasons

        private int reasonAgainstEntry(int kind, int weight, int value, int chamber) {
            if (money.debt > 0) {
                return 1;
            }
            if (chambers[chamber].isSealed()) {
                return 2;
            }
            if (roomLeft(chamber) < weight) {
                return 3;
            }
            if (!hasPlace()) {
                return 4;
            }
            return stake() + kinds[kind].dutyOn(value, weight, 0) > money.bond ? 5 : 0;
        }

        private int reasonAgainstLeaving(Entry e, int weight) {
            if (money.debt > 0) {
                return 1;
            }
            if (chambers[e.chamber].isSealed()) {
                return 2;
            }
            if (!e.proved) {
                return 3;
            }
            return e.weight < weight ? 4 : 0;
        }

        private int reasonAgainstWithdrawal(Entry e, int weight) {
            int reason = reasonAgainstLeaving(e, weight);
            if (reason != 0) {
                return reason;
            }
            return money.account < dutyNow(e, weight) ? 5 : 0;
        }

        private int reasonAgainstExport(Entry e, int weight) {
            int reason = reasonAgainstLeaving(e, weight);
            if (reason != 0) {
                return reason;
            }
            return isLate(e) ? 5 : 0;
        }

        private int reasonAgainstMove(Entry e, int chamber) {
            if (e.chamber == chamber) {
                return 1;
            }
            if (chambers[e.chamber].isSealed()) {
                return 2;
            }
            if (!e.proved) {
                return 3;
            }
            if (chambers[chamber].isSealed()) {
                return 4;
            }
            return roomLeft(chamber) < e.weight ? 5 : 0;
        }

        private int reasonAgainstDrawback(Receipt r, int weight) {
            if (money.debt > 0) {
                return 1;
            }
            if (day - r.dayMade > DRAWBACK_UNTIL) {
                return 2;
            }
            return r.weight < weight ? 3 : 0;
        }

        private boolean canJoin(Entry kept, Entry gone) {
            return kept.kind == gone.kind && kept.chamber == gone.chamber
                    && !chambers[kept.chamber].isSealed() && kept.proved && gone.proved
                    && kept.weight + gone.weight <= MOST_WEIGHT;
        }

        // ---- searches; they answer a place in the row of entries, or NONE

        private int nextLate() {
            int best = NONE;
            for (int i = 0; i < openCount; i++) {
                if (!isLate(entries[i])
                        && (best == NONE || entries[i].dayEntered < entries[best].dayEntered)) {
                    best = i;
                }
            }
            return best;
        }

        /** Told once for a search, since each comparison needs two of them. */
        private void tellDuties() {
            for (int i = 0; i < openCount; i++) {
                duties[i] = wholeDuty(entries[i], ageNow(entries[i]));
            }
        }

        private int dearest() {
            tellDuties();
            int best = NONE;
            for (int i = 0; i < openCount; i++) {
                if (best == NONE || duties[i] > duties[best]) {
                    best = i;
                }
            }
            return best;
        }

        private boolean isCheaper(int place, int other) {
            // duties by weight, compared crosswise so that nothing is rounded
            long here = (long) duties[place] * entries[other].weight;
            long there = (long) duties[other] * entries[place].weight;
            return here < there || (here == there && place < other);
        }

        /** The cheapest of a kind among those that are dearer than the one at a place (NONE: among all). */
        private int cheapestBehind(int place, int kind) {
            int best = NONE;
            for (int i = 0; i < openCount; i++) {
                if (entries[i].kind == kind && (place == NONE || isCheaper(place, i))
                        && (best == NONE || isCheaper(i, best))) {
                    best = i;
                }
            }
            return best;
        }

        private int dutyOfCheapest(int kind, int weight) {
            if (stockOf(kind) < weight) {
                return NONE;
            }
            tellDuties();
            int duty = 0;
            int missing = weight;
            int place = cheapestBehind(NONE, kind);
            for (int i = 0; i < openCount && missing > 0 && place != NONE; i++) {
                int part = Math.min(missing, entries[place].weight);
                duty = duty + dutyNow(entries[place], part);
                missing = missing - part;
                place = cheapestBehind(place, kind);
            }
            return duty;
        }
    }

    /** The saved states, the oldest first in a ring, and the snapshots. */
    private static final class History {
        private final State[] saved = new State[MOST_SAVED];
        private int oldest;
        private int count;
        private final State[] slots = new State[SLOTS];
        private final boolean[] isFilled = new boolean[SLOTS];
        // a journal is undone as one call, so that its lines save nothing
        private boolean paused;

        private History() {
            for (int i = 0; i < MOST_SAVED; i++) {
                saved[i] = new State();
            }
            for (int i = 0; i < SLOTS; i++) {
                slots[i] = new State();
            }
        }

        private void save(State state) {
            if (paused) {
                return;
            }
            if (count == MOST_SAVED) {
                oldest = (oldest + 1) % MOST_SAVED;
                count = count - 1;
            }
            saved[(oldest + count) % MOST_SAVED].copyFrom(state);
            count = count + 1;
        }

        /** Brings the latest state back; there must be one. */
        private void restoreLast(State state) {
            count = count - 1;
            state.copyFrom(saved[(oldest + count) % MOST_SAVED]);
        }

        private void fillSlot(int slot, State state) {
            slots[slot].copyFrom(state);
            isFilled[slot] = true;
        }
    }

    /**
     * What changes the state. Each deed answers its result, or, changing nothing, why it is
     * refused: as a number and not by an exception, because a journal only stops at such a line.
     */
    private static final class Deeds {
        private final State state;
        private final History history;

        private Deeds(State state, History history) {
            this.state = state;
            this.history = history;
        }

        private int bringIn(int kind, int weight, int value, int chamber) {
            if (!areGoods(kind, weight, value, chamber)) {
                return OUT_OF_RANGE;
            }
            if (state.reasonAgainstEntry(kind, weight, value, chamber) != 0) {
                return NOT_NOW;
            }
            history.save(state);
            Entry e = state.addEntry();
            e.kind = kind;
            e.weight = weight;
            e.value = value;
            e.chamber = chamber;
            e.dayEntered = state.day;
            e.dayWeighed = state.day;
            e.proved = true;
            state.kinds[kind].entered += weight;
            return e.number;
        }

        private int takeIntoCountry(int entry, int weight) {
            Entry e = state.findEntry(entry);
            if (e == null) {
                return NOT_THERE;
            }
            if (!isWithin(weight, 1, MOST_WEIGHT)) {
                return OUT_OF_RANGE;
            }
            if (state.reasonAgainstWithdrawal(e, weight) != 0) {
                return NOT_NOW;
            }
            history.save(state);
            int duty = state.dutyNow(e, weight);
            state.money.takeDuty(duty);
            Receipt r = state.addReceipt();
            r.kind = e.kind;
            r.weight = weight;
            r.duty = duty;
            r.dayMade = state.day;
            state.kinds[e.kind].withdrawn += weight;
            e.losePart(weight);
            state.closeIfEmpty(e);
            return duty;
        }

        private int takeAbroad(int entry, int weight) {
            Entry e = state.findEntry(entry);
            if (e == null) {
                return NOT_THERE;
            }
            if (!isWithin(weight, 1, MOST_WEIGHT)) {
                return OUT_OF_RANGE;
            }
            if (state.reasonAgainstExport(e, weight) != 0) {
                return NOT_NOW;
            }
            history.save(state);
            state.kinds[e.kind].sentAbroad += weight;
            e.losePart(weight);
            state.closeIfEmpty(e);
            return e.weight;
        }

        private int payBack(int receipt, int weight) {
            Receipt r = state.findReceipt(receipt);
            if (r == null) {
                return NOT_THERE;
            }
            if (!isWithin(weight, 1, MOST_WEIGHT)) {
                return OUT_OF_RANGE;
            }
            if (state.reasonAgainstDrawback(r, weight) != 0) {
                return NOT_NOW;
            }
            history.save(state);
            int part = r.dutyPart(weight);
            int crowns = paidBackOf(part);
            r.weight = r.weight - weight;
            r.duty = r.duty - part;
            state.money.giveDrawback(crowns);
            state.kinds[r.kind].drawnBack += weight;
            return crowns;
        }

        private int carryOver(int entry, int chamber) {
            Entry e = state.findEntry(entry);
            if (e == null || !isWithin(chamber, 0, CHAMBERS - 1)) {
                return NOT_THERE;
            }
            if (state.reasonAgainstMove(e, chamber) != 0) {
                return NOT_NOW;
            }
            history.save(state);
            e.chamber = chamber;
            return state.roomLeft(chamber);
        }

        private int partOff(int entry, int weight) {
            Entry e = state.findEntry(entry);
            if (e == null) {
                return NOT_THERE;
            }
            if (!isWithin(weight, 1, e.weight - 1)) {
                return OUT_OF_RANGE;
            }
            if (state.chambers[e.chamber].isSealed() || !state.hasPlace()) {
                return NOT_NOW;
            }
            history.save(state);
            Entry part = state.addEntry();
            int number = part.number;
            part.copyFrom(e);
            part.number = number;
            part.weight = weight;
            part.value = e.shareOf(weight);
            e.losePart(weight);
            return number;
        }

        private int join(int entry, int merged) {
            Entry kept = state.findEntry(entry);
            Entry gone = state.findEntry(merged);
            if (kept == null || gone == null) {
                return NOT_THERE;
            }
            if (entry == merged) {
                return OUT_OF_RANGE;
            }
            if (!state.canJoin(kept, gone)) {
                return NOT_NOW;
            }
            history.save(state);
            kept.takeIn(gone);
            state.closeIfEmpty(gone);
            return kept.weight;
        }

        private int putOnScales(int entry, int found) {
            Entry e = state.findEntry(entry);
            if (e == null) {
                return NOT_THERE;
            }
            if (!isWithin(found, 0, e.weight)) {
                return OUT_OF_RANGE;
            }
            if (state.chambers[e.chamber].isSealed()) {
                return NOT_NOW;
            }
            history.save(state);
            int missing = e.weight - found;
            int loss = state.lossIf(e, found);
            int charge = state.chargeFor(e, loss);
            state.money.takeCharge(charge);
            state.kinds[e.kind].lost += loss;
            state.kinds[e.kind].wasted += missing - loss;
            e.losePart(missing);
            e.proved = true;
            e.dayWeighed = state.day;
            state.closeIfEmpty(e);
            return charge;
        }

        private int putSeal(int chamber) {
            if (!isWithin(chamber, 0, CHAMBERS - 1)) {
                return NOT_THERE;
            }
            Chamber c = state.chambers[chamber];
            if (c.isSealed()) {
                return NOT_NOW;
            }
            history.save(state);
            state.sealsPut = state.sealsPut + 1;
            c.seal = state.sealsPut;
            return c.seal;
        }

        private int takeSealOff(int chamber) {
            if (!isWithin(chamber, 0, CHAMBERS - 1)) {
                return NOT_THERE;
            }
            Chamber c = state.chambers[chamber];
            if (!c.isSealed()) {
                return NOT_NOW;
            }
            history.save(state);
            int unproved = 0;
            for (int i = 0; i < state.openCount; i++) {
                Entry e = state.entries[i];
                if (e.chamber == chamber) {
                    e.proved = e.proved && !c.broken;
                    unproved = unproved + (e.proved ? 0 : 1);
                }
            }
            c.seal = NONE;
            c.broken = false;
            return unproved;
        }

        private int damageSeal(int chamber) {
            if (!isWithin(chamber, 0, CHAMBERS - 1)) {
                return NOT_THERE;
            }
            Chamber c = state.chambers[chamber];
            if (!c.isSealed() || c.broken) {
                return NOT_NOW;
            }
            history.save(state);
            c.broken = true;
            return c.seal;
        }

        private int payIn(int amount) {
            if (!isWithin(amount, 1, MOST_DEPOSIT)) {
                return OUT_OF_RANGE;
            }
            if (state.money.accountAfter(amount) > MOST_ACCOUNT) {
                return NOT_NOW;
            }
            history.save(state);
            state.money.takeDeposit(amount);
            return state.money.account;
        }

        private int changeBond(int bond) {
            if (!isWithin(bond, 0, MOST_BOND)) {
                return OUT_OF_RANGE;
            }
            if (bond < state.stake()) {
                return NOT_NOW;
            }
            history.save(state);
            int before = state.money.bond;
            state.money.bond = bond;
            return before;
        }

        private int changeRateByValue(int kind, int percent) {
            if (!isWithin(kind, 0, KINDS - 1) || !isWithin(percent, 0, MOST_PERCENT)) {
                return OUT_OF_RANGE;
            }
            history.save(state);
            int before = state.kinds[kind].byValue;
            state.kinds[kind].byValue = percent;
            return before;
        }

        private int changeRateByWeight(int kind, int crowns) {
            if (!isWithin(kind, 0, KINDS - 1) || !isWithin(crowns, 0, MOST_CROWNS)) {
                return OUT_OF_RANGE;
            }
            history.save(state);
            int before = state.kinds[kind].byWeight;
            state.kinds[kind].byWeight = crowns;
            return before;
        }

        private int letPass(int days) {
            if (!isWithin(days, 1, MOST_DAYS)) {
                return OUT_OF_RANGE;
            }
            if (state.day + days > LAST_DAY) {
                return NOT_NOW;
            }
            history.save(state);
            int lateBefore = countLate();
            state.day = state.day + days;
            return countLate() - lateBefore;
        }

        private int countLate() {
            int late = 0;
            for (int i = 0; i < state.openCount; i++) {
                late = late + (state.isLate(state.entries[i]) ? 1 : 0);
            }
            return late;
        }

        /** Carries out a line of a journal text: its letter, and its numbers in their order. */
        private int carryOutLine(int letter, int[] numbers) {
            switch (letter) {
                case 'e':
                    return bringIn(numbers[0], numbers[1], numbers[2], numbers[3]);
                case 'w':
                    return takeIntoCountry(numbers[0], numbers[1]);
                case 'x':
                    return takeAbroad(numbers[0], numbers[1]);
                case 'g':
                    return putOnScales(numbers[0], numbers[1]);
                case 'm':
                    return carryOver(numbers[0], numbers[1]);
                case 'l':
                    return putSeal(numbers[0]);
                case 'o':
                    return takeSealOff(numbers[0]);
                case 'b':
                    return damageSeal(numbers[0]);
                case 'd':
                    return payIn(numbers[0]);
                case 't':
                    return letPass(numbers[0]);
                default:
                    return OUT_OF_RANGE;
            }
        }
    }

    /**
     * The buffer, and the line that is being read out of it, sign by sign. Every number in a text
     * may be at least 1 and begins with no zero, so that what begins a number is one itself:
     * nothing must be looked at ahead.
     */
    private static final class Journal {
        private static final int MOST_NUMBERS = 4;

        // what stands at a place of a line; the first eight are places in the two rows below them
        private static final int KIND = 0;
        private static final int CHAMBER = 1;
        private static final int ENTRY = 2;
        private static final int WEIGHT = 3;
        private static final int FOUND = 4;
        private static final int VALUE = 5;
        private static final int AMOUNT = 6;
        private static final int DAYS = 7;
        private static final int END = 8;
        private static final int[] LEAST = {0, 0, 0, 1, 0, 1, 1, 1};
        private static final int[] MOST = {KINDS - 1, CHAMBERS - 1, MOST_MADE - 1, MOST_WEIGHT,
            MOST_WEIGHT, MOST_VALUE, MOST_DEPOSIT, MOST_DAYS};

        private static final int[] GOODS = {KIND, WEIGHT, VALUE, CHAMBER};
        private static final int[] PART = {ENTRY, WEIGHT};
        private static final int[] WEIGHING = {ENTRY, FOUND};
        private static final int[] WAY = {ENTRY, CHAMBER};
        private static final int[] SEAL = {CHAMBER};
        private static final int[] MONEY = {AMOUNT};
        private static final int[] TIME = {DAYS};

        private final int[] codes = new int[MOST_SIGNS];
        private int length;
        private int letter;
        // null at the start of a line: then a letter must come
        private int[] form;
        private int place;
        private final int[] numbers = new int[MOST_NUMBERS];

        /** Takes one more sign and answers the new length; the buffer must not be full. */
        private int add(int code) {
            codes[length] = code;
            length = length + 1;
            return length;
        }

        private int wipe() {
            int before = length;
            length = 0;
            return before;
        }

        private int firstWrong() {
            startLine();
            for (int i = 0; i < length; i++) {
                if (!reads(codes[i])) {
                    return i;
                }
            }
            return length;
        }

        private boolean isComplete() {
            return firstWrong() == length && isLineComplete();
        }

        private boolean isLastOfLine(int at) {
            return at + 1 >= length || codes[at + 1] == ';';
        }

        private void startLine() {
            form = null;
            startNumber(0);
        }

        private void startNumber(int newPlace) {
            place = newPlace;
            numbers[newPlace] = NONE;
        }

        private boolean isLineComplete() {
            return form != null && numbers[place] != NONE && sortAt(place + 1) == END;
        }

        /** Reads one sign more of the text; false, if no journal text goes on with it. */
        private boolean reads(int code) {
            if (form == null) {
                letter = code;
                form = formOf(code);
                return form != null;
            }
            if (code >= '0' && code <= '9') {
                return readsDigit(code - '0');
            }
            if (numbers[place] == NONE || code != signBefore(sortAt(place + 1))) {
                return false;
            }
            if (code == ';') {
                startLine();
            } else {
                startNumber(place + 1);
            }
            return true;
        }

        private boolean readsDigit(int digit) {
            int before = numbers[place];
            int sort = sortAt(place);
            if (before == 0 || sort == END) {
                return false;
            }
            int number = before == NONE ? digit : 10 * before + digit;
            if (!isWithin(number, LEAST[sort], MOST[sort])) {
                return false;
            }
            numbers[place] = number;
            return true;
        }

        private static int signBefore(int sort) {
            if (sort == END) {
                return ';';
            }
            return sort == CHAMBER ? '>' : '*';
        }

        private int sortAt(int where) {
            return form != null && where < form.length ? form[where] : END;
        }

        private static int[] formOf(int letter) {
            switch (letter) {
                case 'e':
                    return GOODS;
                case 'w':
                case 'x':
                    return PART;
                case 'g':
                    return WEIGHING;
                case 'm':
                    return WAY;
                case 'l':
                case 'o':
                case 'b':
                    return SEAL;
                case 'd':
                    return MONEY;
                case 't':
                    return TIME;
                default:
                    return null;
            }
        }
    }
}
