/** All that the queries of a warehouse tell of its state, as one text. */
final class Told {

    private Told() {
    }

    static String of(BondWarehouse w) {
        StringBuilder text = new StringBuilder();
        text.append("day ").append(w.day()).append(" made ").append(w.entriesMade());
        text.append(" bond ").append(w.bond()).append(" stake ").append(w.dutyAtStake());
        text.append(" account ").append(w.account()).append(" debt ").append(w.debt());
        text.append(" sums ").append(w.deposits()).append(' ').append(w.dutiesPaid());
        text.append(' ').append(w.charges()).append(' ').append(w.drawbacks());
        text.append(" balances ").append(w.balance()).append(' ').append(w.balanceByTotals());
        text.append(" mean ").append(w.meanDuty()).append(" next ").append(w.nextOverdue());
        text.append(" dearest ").append(w.dearestEntry()).append('\n');
        for (int rank = 0; rank < w.entries(); rank++) {
            entry(text, w, w.entryAt(rank));
        }
        for (int number = 0; number < 60; number++) {
            text.append(w.isOpenEntry(number) ? '+' : '-');
        }
        text.append('\n');
        for (int chamber = 0; chamber < 5; chamber++) {
            text.append("chamber ").append(chamber).append(": ").append(w.isLocked(chamber));
            text.append(' ').append(w.sealOf(chamber)).append(' ').append(w.isSealBroken(chamber));
            text.append(' ').append(w.entriesIn(chamber)).append(' ').append(w.roomIn(chamber)).append('\n');
        }
        for (int receipt = 0; receipt < w.receipts(); receipt++) {
            text.append("receipt ").append(w.receiptKind(receipt)).append(' ').append(w.receiptWeight(receipt));
            text.append(' ').append(w.receiptDuty(receipt)).append(' ').append(w.receiptAge(receipt)).append('\n');
        }
        for (int kind = 0; kind < 6; kind++) {
            kind(text, w, kind);
        }
        return text.toString();
    }

    private static void entry(StringBuilder text, BondWarehouse w, int number) {
        text.append("entry ").append(number).append(": ").append(w.kindOf(number)).append(' ');
        text.append(w.weightOf(number)).append(' ').append(w.valueOf(number)).append(' ');
        text.append(w.chamberOf(number)).append(' ').append(w.ageOf(number)).append(' ');
        text.append(w.isProved(number)).append(' ').append(w.isOverdue(number)).append(' ');
        text.append(w.dutyOf(number)).append(' ').append(w.allowedWaste(number)).append(' ');
        text.append(w.daysToOverdue(number)).append(' ').append(w.dutyLater(number, 201)).append(' ');
        text.append(w.chargeIfWeighed(number, 0)).append('\n');
    }

    private static void kind(StringBuilder text, BondWarehouse w, int kind) {
        text.append("kind ").append(kind).append(": ").append(w.rateByValue(kind)).append(' ');
        text.append(w.rateByWeight(kind)).append(' ').append(w.entered(kind)).append(' ');
        text.append(w.withdrawn(kind)).append(' ').append(w.sentAbroad(kind)).append(' ');
        text.append(w.wasted(kind)).append(' ').append(w.lost(kind)).append(' ').append(w.drawnBack(kind)).append(' ');
        text.append(w.stockByEntries(kind)).append(' ').append(w.stockByTotals(kind)).append(' ');
        text.append(w.cheapestEntry(kind)).append(' ').append(w.dutyFromCheapest(kind, 1)).append('\n');
    }
}
