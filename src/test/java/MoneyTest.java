/** Promises 13 to 17 and 39 to 55: money, rates, time, and receipts. */
public final class MoneyTest {

    private MoneyTest() {
    }

    public static void main(String[] args) {
        depositing();
        settingBond();
        settingRates();
        passing();
        receipts();
        moneyQueries();
        Check.end();
    }

    private static void depositing() {
        Check.promise(13);
        BondWarehouse w = new BondWarehouse();
        Check.refuses("nothing", Check.ARGUMENT, () -> w.deposit(0));
        Check.refuses("below", Check.ARGUMENT, () -> w.deposit(-1));
        Check.refuses("too much", Check.ARGUMENT, () -> w.deposit(10000));
        Check.is("the least", 1, () -> w.deposit(1));
        Check.is("the most", 10000, () -> w.deposit(9999));
        for (int i = 0; i < 8; i++) {
            w.deposit(9999);
        }
        Check.is("account", 89992, w::account);
        Check.is("to the brim less one", 99991, () -> w.deposit(9999));
        Check.refuses("over", Check.STATE, () -> w.deposit(9));
        Check.is("to the brim", 99999, () -> w.deposit(8));
        Check.refuses("one over", Check.STATE, () -> w.deposit(1));
        Check.is("all deposits", 99999, w::deposits);
        w.undo();
        Check.is("undone", 99991, w::account);

        BondWarehouse v = new BondWarehouse();
        v.enter(0, 100, 1000, 0);
        v.weigh(0, 0);
        Check.is("debt", 100, v::debt);
        Check.is("only debt is paid", 0, () -> v.deposit(40));
        Check.is("less debt", 60, v::debt);
        Check.is("the debt and more", 5, () -> v.deposit(65));
        Check.is("no debt", 0, v::debt);
        Check.is("both are deposits", 105, v::deposits);
        Check.is("balance", 5, v::balance);
        Check.is("balance by totals", 5, v::balanceByTotals);
    }

    private static void settingBond() {
        Check.promise(14);
        BondWarehouse w = new BondWarehouse();
        Check.refuses("below", Check.ARGUMENT, () -> w.setBond(-1));
        Check.refuses("too much", Check.ARGUMENT, () -> w.setBond(50001));
        Check.is("the most", 5000, () -> w.setBond(50000));
        Check.is("the least", 50000, () -> w.setBond(0));
        w.setBond(500);
        w.enter(0, 10, 1234, 0);
        Check.refuses("less than the stake", Check.STATE, () -> w.setBond(123));
        Check.is("as much as the stake", 500, () -> w.setBond(124));
        Check.is("set", 124, w::bond);
        Check.refuses("argument before state", Check.ARGUMENT, () -> w.setBond(-1));
        Check.is("saved", 5, w::savedStates);
        w.undo();
        Check.is("undone", 500, w::bond);
    }

    private static void settingRates() {
        BondWarehouse w = new BondWarehouse();
        Check.promise(15);
        Check.is("previous", 20, () -> w.setRateByValue(1, 60));
        Check.is("the most", 60, () -> w.setRateByValue(1, 0));
        Check.is("the least", 0, () -> w.rateByValue(1));
        Check.is("no other", 10, () -> w.rateByValue(0));
        Check.refuses("too much", Check.ARGUMENT, () -> w.setRateByValue(1, 61));
        Check.refuses("below", Check.ARGUMENT, () -> w.setRateByValue(1, -1));
        Check.refuses("no kind", Check.ARGUMENT, () -> w.setRateByValue(6, 1));
        Check.refuses("no kind below", Check.ARGUMENT, () -> w.setRateByValue(-1, 1));
        Check.is("saved", 2, w::savedStates);
        Check.promise(16);
        Check.is("previous by weight", 5, () -> w.setRateByWeight(5, 80));
        Check.is("the most by weight", 80, () -> w.setRateByWeight(5, 0));
        Check.is("the least by weight", 0, () -> w.rateByWeight(5));
        Check.is("no other by weight", 40, () -> w.rateByWeight(3));
        Check.refuses("too much", Check.ARGUMENT, () -> w.setRateByWeight(5, 81));
        Check.refuses("below", Check.ARGUMENT, () -> w.setRateByWeight(5, -1));
        Check.refuses("no kind", Check.ARGUMENT, () -> w.setRateByWeight(6, 1));
        Check.refuses("no kind below", Check.ARGUMENT, () -> w.setRateByWeight(-1, 1));
        Check.is("saved, too", 4, w::savedStates);
        w.undo();
        Check.is("undone by weight", 80, () -> w.rateByWeight(5));
        w.undo();
        w.undo();
        Check.promise(15);
        Check.is("undone", 60, () -> w.rateByValue(1));
        w.enter(0, 100, 100, 0);
        w.setRateByValue(0, 33);
        w.setRateByWeight(0, 7);
        Check.is("for goods that are there, too", 40, w::dutyAtStake);
        Check.promise(45);
        Check.is("by weight", 7, () -> w.rateByWeight(0));
        Check.refuses("no kind", Check.ARGUMENT, () -> w.rateByWeight(6));
        Check.refuses("no kind below", Check.ARGUMENT, () -> w.rateByWeight(-1));
        Check.promise(44);
        Check.is("by value", 33, () -> w.rateByValue(0));
        Check.refuses("no kind", Check.ARGUMENT, () -> w.rateByValue(6));
        Check.refuses("no kind below", Check.ARGUMENT, () -> w.rateByValue(-1));
        for (int i = 0; i < 6; i++) {
            w.setRateByValue(2, 5);
        }
        Check.promise(15);
        Check.is("saved, even if nothing changes", 6, w::savedStates);
    }

    private static void passing() {
        Check.promise(17);
        BondWarehouse w = new BondWarehouse();
        Check.refuses("none", Check.ARGUMENT, () -> w.pass(0));
        Check.refuses("below", Check.ARGUMENT, () -> w.pass(-1));
        Check.refuses("too many", Check.ARGUMENT, () -> w.pass(101));
        w.enter(0, 1, 1, 0);
        Check.is("one day", 0, () -> w.pass(1));
        w.enter(0, 1, 1, 0);
        w.enter(0, 1, 1, 0);
        w.pass(100);
        Check.is("199 and 200 days", 0, () -> w.pass(99));
        Check.is("the first", 1, () -> w.pass(1));
        Check.is("both others", 2, () -> w.pass(1));
        Check.is("no more", 0, () -> w.pass(100));
        Check.promise(18);
        Check.is("day", 302, w::day);
        Check.promise(17);
        for (int i = 0; i < 96; i++) {
            w.pass(100);
        }
        Check.is("day 9902", 9902, w::day);
        Check.refuses("day 10000", Check.STATE, () -> w.pass(98));
        Check.is("day 9999", 0, () -> w.pass(97));
        Check.refuses("no day more", Check.STATE, () -> w.pass(1));
        Check.refuses("argument before state", Check.ARGUMENT, () -> w.pass(101));
        Check.is("the last day", 9999, w::day);
        w.undo();
        Check.is("undone", 9902, w::day);
    }

    private static void receipts() {
        BondWarehouse w = new BondWarehouse();
        w.deposit(9999);
        w.enter(3, 999, 1, 0);
        w.enter(0, 100, 1000, 0);
        for (int i = 1; i <= 11; i++) {
            w.withdraw(0, i);
            w.pass(1);
        }
        Check.promise(39);
        Check.is("eleven", 11, w::receipts);
        w.withdraw(1, 50);
        Check.is("twelve", 12, w::receipts);
        Check.promise(41);
        Check.is("the oldest", 1, () -> w.receiptWeight(11));
        w.pass(3);
        w.withdraw(0, 100);
        Check.promise(39);
        Check.is("no more than twelve", 12, w::receipts);
        Check.promise(40);
        Check.is("kind of the latest", 3, () -> w.receiptKind(0));
        Check.is("kind of the one before", 0, () -> w.receiptKind(1));
        Check.promise(41);
        Check.is("the oldest is gone", 2, () -> w.receiptWeight(11));
        Check.is("the latest", 100, () -> w.receiptWeight(0));
        Check.promise(42);
        Check.is("duty of the latest", 40, () -> w.receiptDuty(0));
        Check.is("duty of the one before", 50, () -> w.receiptDuty(1));
        Check.is("duty of the oldest", 1, () -> w.receiptDuty(11));
        Check.promise(43);
        Check.is("age of the latest", 0, () -> w.receiptAge(0));
        Check.is("age of the one before", 3, () -> w.receiptAge(1));
        Check.is("age of the oldest", 13, () -> w.receiptAge(11));
        for (int receipt : new int[] {-1, 12, Integer.MIN_VALUE, Integer.MAX_VALUE}) {
            Check.promise(40);
            Check.refuses("kind", Check.INDEX, () -> w.receiptKind(receipt));
            Check.promise(41);
            Check.refuses("weight", Check.INDEX, () -> w.receiptWeight(receipt));
            Check.promise(42);
            Check.refuses("duty", Check.INDEX, () -> w.receiptDuty(receipt));
            Check.promise(43);
            Check.refuses("age", Check.INDEX, () -> w.receiptAge(receipt));
        }
        BondWarehouse v = new BondWarehouse();
        Check.refuses("none at first", Check.INDEX, () -> v.receiptAge(0));
    }

    private static void moneyQueries() {
        BondWarehouse w = new BondWarehouse();
        w.deposit(1000);
        w.enter(1, 100, 1000, 0);
        w.enter(0, 10, 111, 1);
        Check.promise(47);
        Check.is("stake", 210 + 12, w::dutyAtStake);
        w.withdraw(0, 50);
        Check.is("stake then", 105 + 12, w::dutyAtStake);
        w.drawBack(0, 10);
        w.weigh(1, 5);
        Check.promise(46);
        Check.is("bond", 5000, w::bond);
        Check.promise(48);
        Check.is("account", 1000 - 105 + 18 - 6, w::account);
        Check.promise(49);
        Check.is("no debt", 0, w::debt);
        Check.promise(50);
        Check.is("balance", 907, w::balance);
        Check.promise(51);
        Check.is("balance by totals", 907, w::balanceByTotals);
        Check.promise(52);
        Check.is("deposits", 1000, w::deposits);
        Check.promise(53);
        Check.is("duties", 105, w::dutiesPaid);
        Check.promise(54);
        Check.is("charges", 6, w::charges);
        Check.promise(55);
        Check.is("drawbacks", 18, w::drawbacks);
        w.enter(4, 100, 9999, 2);
        w.weigh(2, 0);
        Check.promise(48);
        Check.is("empty", 0, w::account);
        Check.promise(49);
        Check.is("debt", 3000 - 907, w::debt);
        Check.promise(50);
        Check.is("below zero", 907 - 3000, w::balance);
        Check.promise(51);
        Check.is("below zero by totals", 907 - 3000, w::balanceByTotals);
        Check.promise(54);
        Check.is("charges, all", 3006, w::charges);
        w.deposit(2000);
        w.deposit(100);
        Check.promise(52);
        Check.is("deposits, all", 3100, w::deposits);
        Check.promise(48);
        Check.is("account then", 7, w::account);
    }
}
