import java.util.ArrayDeque;
import java.util.ArrayList;
import java.util.Comparator;
import java.util.Deque;
import java.util.List;
import java.util.Map;
import java.util.TreeMap;
import java.util.function.IntSupplier;
import java.util.regex.Matcher;
import java.util.regex.Pattern;

/**
 * The document once more, told as plainly as the Java library allows: with maps, patterns and
 * copies of everything. It has the face of BondWarehouse, and random runs compare the two.
 */
final class Model {
    private static final int[] WASTE = {0, 5, 10, 2, 20, 0};
    private static final Pattern LINE = Pattern.compile("e([0-5])\\*([1-9]\\d{0,2})\\*([1-9]\\d{0,3})>([0-4])"
            + "|[wx](\\d|[1-5]\\d)\\*([1-9]\\d{0,2})|g(\\d|[1-5]\\d)\\*(0|[1-9]\\d{0,2})|m(\\d|[1-5]\\d)>([0-4])"
            + "|[lob]([0-4])|d([1-9]\\d{0,3})|t(100|[1-9]\\d?)");
    private static final Pattern TEXT = Pattern.compile("(?:" + LINE.pattern() + ")(?:;(?:" + LINE.pattern() + "))*");

    /** An entry; its age and the days since it was weighed are counted up day by day. */
    private record Goods(int kind, int weight, int value, int chamber, int age, int unweighed, boolean proved) {
        Goods less(int part) {
            return new Goods(kind, weight - part, value - share(part), chamber, age, unweighed, proved);
        }

        int share(int part) {
            return (int) ((long) value * part / weight);
        }

        Goods older(int days) {
            return new Goods(kind, weight, value, chamber, age + days, unweighed + days, proved);
        }

        Goods proved(boolean now) {
            return new Goods(kind, weight, value, chamber, age, unweighed, now);
        }

        Goods weighed() {
            return new Goods(kind, weight, value, chamber, age, 0, true);
        }

        Goods in(int other) {
            return new Goods(kind, weight, value, other, age, unweighed, proved);
        }
    }

    private record Paper(int kind, int weight, int duty, int age) {
    }

    private static final class Everything {
        int day;
        int made;
        int seals;
        int bond = 5000;
        int account;
        int debt;
        int deposits;
        int duties;
        int charges;
        int drawbacks;
        TreeMap<Integer, Goods> goods = new TreeMap<>();
        List<Paper> papers = new ArrayList<>();
        int[] byValue = {10, 20, 5, 0, 30, 15};
        int[] byWeight = {0, 10, 25, 40, 0, 5};
        int[] seal = {-1, -1, -1, -1, -1};
        boolean[] broken = new boolean[5];
        int[][] weights = new int[6][6];

        Everything copy() {
            Everything e = new Everything();
            e.day = day;
            e.made = made;
            e.seals = seals;
            e.bond = bond;
            e.account = account;
            e.debt = debt;
            e.deposits = deposits;
            e.duties = duties;
            e.charges = charges;
            e.drawbacks = drawbacks;
            e.goods = new TreeMap<>(goods);
            e.papers = new ArrayList<>(papers);
            e.byValue = byValue.clone();
            e.byWeight = byWeight.clone();
            e.seal = seal.clone();
            e.broken = broken.clone();
            for (int i = 0; i < 6; i++) {
                e.weights[i] = weights[i].clone();
            }
            return e;
        }
    }

    private Everything now = new Everything();
    private Deque<Everything> saved = new ArrayDeque<>();
    private final Everything[] slots = new Everything[2];
    private final StringBuilder buffer = new StringBuilder();

    // ---- goods, chambers, money: each call is done on a copy, and counts if it throws nothing

    private int undoable(IntSupplier call) {
        Everything before = now;
        now = before.copy();
        try {
            int answer = call.getAsInt();
            saved.addLast(before);
            if (saved.size() > 6) {
                saved.removeFirst();
            }
            return answer;
        } catch (RuntimeException e) {
            now = before;
            throw e;
        }
    }

    public int enter(int kind, int weight, int value, int chamber) {
        return undoable(() -> {
            if (whyNoEntry(kind, weight, value, chamber) != 0) {
                throw new IllegalStateException();
            }
            now.goods.put(now.made, new Goods(kind, weight, value, chamber, 0, 0, true));
            now.weights[0][kind] += weight;
            return now.made++;
        });
    }

    public int withdraw(int entry, int weight) {
        return undoable(() -> {
            if (whyNoWithdrawal(entry, weight) != 0) {
                throw new IllegalStateException();
            }
            Goods g = goods(entry);
            int duty = dutyOfPart(entry, weight);
            now.account -= duty;
            now.duties += duty;
            now.papers.add(0, new Paper(g.kind, weight, duty, 0));
            if (now.papers.size() == 13) {
                now.papers.remove(12);
            }
            now.weights[1][g.kind] += weight;
            put(entry, g.less(weight));
            return duty;
        });
    }

    public int sendAbroad(int entry, int weight) {
        return undoable(() -> {
            if (whyNoExport(entry, weight) != 0) {
                throw new IllegalStateException();
            }
            Goods g = goods(entry);
            now.weights[2][g.kind] += weight;
            put(entry, g.less(weight));
            return g.weight - weight;
        });
    }

    public int drawBack(int receipt, int weight) {
        return undoable(() -> {
            if (whyNoDrawback(receipt, weight) != 0) {
                throw new IllegalStateException();
            }
            Paper p = paper(receipt);
            int part = (int) ((long) p.duty * weight / p.weight);
            int paid = part * 9 / 10;
            now.account += paid;
            now.drawbacks += paid;
            now.weights[5][p.kind] += weight;
            now.papers.set(receipt, new Paper(p.kind, p.weight - weight, p.duty - part, p.age));
            return paid;
        });
    }

    public int move(int entry, int chamber) {
        return undoable(() -> {
            if (whyNoMove(entry, chamber) != 0) {
                throw new IllegalStateException();
            }
            put(entry, goods(entry).in(chamber));
            return roomIn(chamber);
        });
    }

    public int split(int entry, int weight) {
        return undoable(() -> {
            Goods g = goods(entry);
            argument(weight >= 1 && weight <= 998 && weight < g.weight);
            if (isLocked(g.chamber) || now.goods.size() == 16 || now.made == 60) {
                throw new IllegalStateException();
            }
            put(now.made, new Goods(g.kind, weight, g.share(weight), g.chamber, g.age, g.unweighed, g.proved));
            put(entry, g.less(weight));
            return now.made++;
        });
    }

    public int merge(int entry, int merged) {
        return undoable(() -> {
            Goods a = goods(entry);
            Goods b = goods(merged);
            argument(entry != merged);
            if (a.kind != b.kind || a.chamber != b.chamber || isLocked(a.chamber) || !a.proved || !b.proved
                    || a.weight + b.weight > 999) {
                throw new IllegalStateException();
            }
            now.goods.remove(merged);
            put(entry, new Goods(a.kind, a.weight + b.weight, a.value + b.value, a.chamber, Math.max(a.age, b.age),
                    Math.min(a.unweighed, b.unweighed), true));
            return a.weight + b.weight;
        });
    }

    public int weigh(int entry, int found) {
        return undoable(() -> {
            int charge = chargeIfWeighed(entry, found);
            Goods g = goods(entry);
            if (isLocked(g.chamber)) {
                throw new IllegalStateException();
            }
            int missing = g.weight - found;
            int waste = Math.min(missing, allowedWaste(entry));
            now.weights[3][g.kind] += waste;
            now.weights[4][g.kind] += missing - waste;
            now.charges += charge;
            now.account -= charge;
            if (now.account < 0) {
                now.debt -= now.account;
                now.account = 0;
            }
            put(entry, g.less(missing).weighed());
            return charge;
        });
    }

    public int lock(int chamber) {
        return undoable(() -> {
            if (isLocked(chamber)) {
                throw new IllegalStateException();
            }
            return now.seal[chamber] = ++now.seals;
        });
    }

    public int open(int chamber) {
        return undoable(() -> {
            if (!isLocked(chamber)) {
                throw new IllegalStateException();
            }
            int unproved = 0;
            for (Map.Entry<Integer, Goods> e : now.goods.entrySet()) {
                if (e.getValue().chamber == chamber) {
                    if (now.broken[chamber]) {
                        e.setValue(e.getValue().proved(false));
                    }
                    unproved += e.getValue().proved ? 0 : 1;
                }
            }
            now.seal[chamber] = -1;
            now.broken[chamber] = false;
            return unproved;
        });
    }

    public int breakSeal(int chamber) {
        return undoable(() -> {
            if (!isLocked(chamber) || now.broken[chamber]) {
                throw new IllegalStateException();
            }
            now.broken[chamber] = true;
            return now.seal[chamber];
        });
    }

    public int deposit(int amount) {
        return undoable(() -> {
            argument(amount >= 1 && amount <= 9999);
            int left = amount;
            while (left > 0 && now.debt > 0) {
                left--;
                now.debt--;
            }
            now.account += left;
            if (now.account > 99999) {
                throw new IllegalStateException();
            }
            now.deposits += amount;
            return now.account;
        });
    }

    public int setBond(int bond) {
        return undoable(() -> {
            argument(bond >= 0 && bond <= 50000);
            if (bond < dutyAtStake()) {
                throw new IllegalStateException();
            }
            int before = now.bond;
            now.bond = bond;
            return before;
        });
    }

    public int setRateByValue(int kind, int percent) {
        return undoable(() -> {
            argument(kind >= 0 && kind <= 5 && percent >= 0 && percent <= 60);
            int before = now.byValue[kind];
            now.byValue[kind] = percent;
            return before;
        });
    }

    public int setRateByWeight(int kind, int crowns) {
        return undoable(() -> {
            argument(kind >= 0 && kind <= 5 && crowns >= 0 && crowns <= 80);
            int before = now.byWeight[kind];
            now.byWeight[kind] = crowns;
            return before;
        });
    }

    public int pass(int days) {
        return undoable(() -> {
            argument(days >= 1 && days <= 100);
            if (now.day + days > 9999) {
                throw new IllegalStateException();
            }
            int late = 0;
            for (int i = 0; i < days; i++) {
                now.day++;
                for (Map.Entry<Integer, Goods> e : now.goods.entrySet()) {
                    e.setValue(e.getValue().older(1));
                    late += e.getValue().age == 201 ? 1 : 0;
                }
                now.papers.replaceAll(p -> new Paper(p.kind, p.weight, p.duty, p.age + 1));
            }
            return late;
        });
    }

    // ---- entries

    public int day() {
        return now.day;
    }

    public int entries() {
        return now.goods.size();
    }

    public int entriesMade() {
        return now.made;
    }

    public boolean isOpenEntry(int number) {
        return now.goods.containsKey(number);
    }

    public int entryAt(int rank) {
        index(rank >= 0 && rank < now.goods.size());
        return new ArrayList<>(now.goods.keySet()).get(rank);
    }

    public int kindOf(int entry) {
        return goods(entry).kind;
    }

    public int weightOf(int entry) {
        return goods(entry).weight;
    }

    public int valueOf(int entry) {
        return goods(entry).value;
    }

    public int chamberOf(int entry) {
        return goods(entry).chamber;
    }

    public int ageOf(int entry) {
        return goods(entry).age;
    }

    public boolean isProved(int entry) {
        return goods(entry).proved;
    }

    public boolean isOverdue(int entry) {
        return goods(entry).age > 200;
    }

    public int dutyOfPart(int entry, int weight) {
        Goods g = goods(entry);
        argument(weight >= 1 && weight <= g.weight);
        return duty(g, weight, g.age);
    }

    public int dutyOf(int entry) {
        Goods g = goods(entry);
        return duty(g, g.weight, g.age);
    }

    public int allowedWaste(int entry) {
        Goods g = goods(entry);
        return (int) Math.min(g.weight, (long) g.weight * WASTE[g.kind] * (g.unweighed / 10) / 1000);
    }

    public double meanDuty() {
        return entries() == 0 ? 0.0 : (double) dutyAtStake() / entries();
    }

    // ---- chambers and receipts

    public boolean isLocked(int chamber) {
        return sealOf(chamber) != -1;
    }

    public int sealOf(int chamber) {
        index(chamber >= 0 && chamber <= 4);
        return now.seal[chamber];
    }

    public boolean isSealBroken(int chamber) {
        return isLocked(chamber) && now.broken[chamber];
    }

    public int entriesIn(int chamber) {
        index(chamber >= 0 && chamber <= 4);
        return (int) now.goods.values().stream().filter(g -> g.chamber == chamber).count();
    }

    public int roomIn(int chamber) {
        index(chamber >= 0 && chamber <= 4);
        return 2000 - now.goods.values().stream().filter(g -> g.chamber == chamber).mapToInt(Goods::weight).sum();
    }

    public int receipts() {
        return now.papers.size();
    }

    public int receiptKind(int receipt) {
        return paper(receipt).kind;
    }

    public int receiptWeight(int receipt) {
        return paper(receipt).weight;
    }

    public int receiptDuty(int receipt) {
        return paper(receipt).duty;
    }

    public int receiptAge(int receipt) {
        return paper(receipt).age;
    }

    // ---- rates, money, weights

    public int rateByValue(int kind) {
        argument(kind >= 0 && kind <= 5);
        return now.byValue[kind];
    }

    public int rateByWeight(int kind) {
        argument(kind >= 0 && kind <= 5);
        return now.byWeight[kind];
    }

    public int bond() {
        return now.bond;
    }

    public int dutyAtStake() {
        return now.goods.values().stream().mapToInt(g -> duty(g, g.weight, g.age)).sum();
    }

    public int account() {
        return now.account;
    }

    public int debt() {
        return now.debt;
    }

    public int balance() {
        return now.account - now.debt;
    }

    public int balanceByTotals() {
        return now.account - now.debt;
    }

    public int deposits() {
        return now.deposits;
    }

    public int dutiesPaid() {
        return now.duties;
    }

    public int charges() {
        return now.charges;
    }

    public int drawbacks() {
        return now.drawbacks;
    }

    private int told(int which, int kind) {
        argument(kind >= 0 && kind <= 5);
        return now.weights[which][kind];
    }

    public int entered(int kind) {
        return told(0, kind);
    }

    public int withdrawn(int kind) {
        return told(1, kind);
    }

    public int sentAbroad(int kind) {
        return told(2, kind);
    }

    public int wasted(int kind) {
        return told(3, kind);
    }

    public int lost(int kind) {
        return told(4, kind);
    }

    public int drawnBack(int kind) {
        return told(5, kind);
    }

    public int stockByEntries(int kind) {
        argument(kind >= 0 && kind <= 5);
        return now.goods.values().stream().filter(g -> g.kind == kind).mapToInt(Goods::weight).sum();
    }

    public int stockByTotals(int kind) {
        return stockByEntries(kind);
    }

    // ---- reasons

    private static int first(boolean... reasons) {
        for (int i = 0; i < reasons.length; i++) {
            if (reasons[i]) {
                return i + 1;
            }
        }
        return 0;
    }

    public int whyNoEntry(int kind, int weight, int value, int chamber) {
        argument(kind >= 0 && kind <= 5 && weight >= 1 && weight <= 999 && value >= 1 && value <= 9999
                && chamber >= 0 && chamber <= 4);
        int stake = dutyAtStake() + duty(new Goods(kind, weight, value, chamber, 0, 0, true), weight, 0);
        return first(now.debt > 0, isLocked(chamber), weight > roomIn(chamber),
                now.goods.size() == 16 || now.made == 60, stake > now.bond);
    }

    public int whyNoWithdrawal(int entry, int weight) {
        Goods g = goods(entry);
        argument(weight >= 1 && weight <= 999);
        return first(now.debt > 0, isLocked(g.chamber), !g.proved, g.weight < weight,
                g.weight >= weight && now.account < duty(g, weight, g.age));
    }

    public int whyNoExport(int entry, int weight) {
        Goods g = goods(entry);
        argument(weight >= 1 && weight <= 999);
        return first(now.debt > 0, isLocked(g.chamber), !g.proved, g.weight < weight, g.age > 200);
    }

    public int whyNoMove(int entry, int chamber) {
        Goods g = goods(entry);
        int room = roomIn(chamber);
        return first(g.chamber == chamber, isLocked(g.chamber), !g.proved, isLocked(chamber), room < g.weight);
    }

    public int whyNoDrawback(int receipt, int weight) {
        Paper p = paper(receipt);
        argument(weight >= 1 && weight <= 999);
        return first(now.debt > 0, p.age > 60, p.weight < weight);
    }

    // ---- what would be

    public int chargeIfWeighed(int entry, int found) {
        Goods g = goods(entry);
        argument(found >= 0 && found <= g.weight);
        int missing = g.weight - found;
        int loss = missing - Math.min(missing, allowedWaste(entry));
        return loss == 0 ? 0 : duty(g, loss, g.age) * (g.proved ? 1 : 2);
    }

    public int drawbackFor(int receipt, int weight) {
        Paper p = paper(receipt);
        argument(weight >= 1 && weight <= p.weight);
        return (int) ((long) p.duty * weight / p.weight) * 9 / 10;
    }

    public int dutyLater(int entry, int days) {
        Goods g = goods(entry);
        argument(days >= 0 && days <= 365);
        return duty(g, g.weight, g.age + days);
    }

    public int daysToOverdue(int entry) {
        int days = 0;
        while (goods(entry).age + days <= 200) {
            days++;
        }
        return days;
    }

    public int nextOverdue() {
        return now.goods.entrySet().stream().filter(e -> e.getValue().age <= 200)
                .min(Comparator.comparingInt(e -> -e.getValue().age)).map(Map.Entry::getKey).orElse(-1);
    }

    private List<Integer> byPrice(int kind) {
        List<Integer> numbers = new ArrayList<>();
        for (int number : now.goods.keySet()) {
            if (now.goods.get(number).kind == kind) {
                numbers.add(number);
            }
        }
        // the sort is stable, so that like ones stay in the order of their numbers
        numbers.sort((a, b) -> Long.compare((long) dutyOf(a) * weightOf(b), (long) dutyOf(b) * weightOf(a)));
        return numbers;
    }

    public int cheapestEntry(int kind) {
        argument(kind >= 0 && kind <= 5);
        return byPrice(kind).isEmpty() ? -1 : byPrice(kind).get(0);
    }

    public int dutyFromCheapest(int kind, int weight) {
        argument(kind >= 0 && kind <= 5 && weight >= 1 && weight <= 9999);
        int sum = 0;
        int left = weight;
        for (int number : byPrice(kind)) {
            int part = Math.min(left, weightOf(number));
            if (part > 0) {
                sum += dutyOfPart(number, part);
            }
            left -= part;
        }
        return left > 0 ? -1 : sum;
    }

    public int dearestEntry() {
        return now.goods.keySet().stream().min(Comparator.comparingInt(number -> -dutyOf(number))).orElse(-1);
    }

    // ---- journal text

    public int append(int code) {
        argument(code >= 33 && code <= 126);
        if (buffer.length() == 60) {
            throw new IllegalStateException();
        }
        return buffer.append((char) code).length();
    }

    public int clearText() {
        int length = buffer.length();
        buffer.setLength(0);
        return length;
    }

    public int firstError() {
        for (int length = 1; length <= buffer.length(); length++) {
            Matcher m = TEXT.matcher(buffer.substring(0, length));
            if (!m.matches() && !m.hitEnd()) {
                return length - 1;
            }
        }
        return buffer.length();
    }

    public int run() {
        argument(TEXT.matcher(buffer).matches());
        Deque<Everything> before = new ArrayDeque<>(saved);
        Everything start = now;
        int done = 0;
        try {
            for (String line : buffer.toString().split(";")) {
                carryOut(line);
                done++;
            }
        } catch (IllegalArgumentException | IllegalStateException | IndexOutOfBoundsException e) {
            // the line is refused, and those behind it are left out
        }
        buffer.setLength(0);
        saved = before;
        saved.addLast(start);
        if (saved.size() > 6) {
            saved.removeFirst();
        }
        return done;
    }

    private void carryOut(String line) {
        String[] parts = line.substring(1).split("[*>]");
        int[] n = new int[4];
        for (int i = 0; i < parts.length; i++) {
            n[i] = Integer.parseInt(parts[i]);
        }
        switch (line.charAt(0)) {
            case 'e' -> enter(n[0], n[1], n[2], n[3]);
            case 'w' -> withdraw(n[0], n[1]);
            case 'x' -> sendAbroad(n[0], n[1]);
            case 'g' -> weigh(n[0], n[1]);
            case 'm' -> move(n[0], n[1]);
            case 'l' -> lock(n[0]);
            case 'o' -> open(n[0]);
            case 'b' -> breakSeal(n[0]);
            case 'd' -> deposit(n[0]);
            default -> pass(n[0]);
        }
    }

    // ---- undo and snapshots

    public int undo() {
        if (saved.isEmpty()) {
            throw new IllegalStateException();
        }
        now = saved.removeLast();
        return saved.size();
    }

    public int savedStates() {
        return saved.size();
    }

    public int keep(int slot) {
        index(slot == 0 || slot == 1);
        slots[slot] = now.copy();
        return entries();
    }

    public int goBack(int slot) {
        return undoable(() -> {
            index(slot == 0 || slot == 1);
            if (slots[slot] == null) {
                throw new IllegalStateException();
            }
            now = slots[slot].copy();
            return entries();
        });
    }

    // ---- what they share

    private static void argument(boolean right) {
        if (!right) {
            throw new IllegalArgumentException();
        }
    }

    private static void index(boolean right) {
        if (!right) {
            throw new IndexOutOfBoundsException();
        }
    }

    private Goods goods(int entry) {
        index(now.goods.containsKey(entry));
        return now.goods.get(entry);
    }

    private Paper paper(int receipt) {
        index(receipt >= 0 && receipt < now.papers.size());
        return now.papers.get(receipt);
    }

    private void put(int entry, Goods g) {
        if (g.weight == 0) {
            now.goods.remove(entry);
        } else {
            now.goods.put(entry, g);
        }
    }

    private int duty(Goods g, int part, int age) {
        long byValue = (long) Math.ceil(g.share(part) * (double) now.byValue[g.kind] / 100.0);
        long byWeight = (long) Math.ceil(part * (double) now.byWeight[g.kind] / 100.0);
        long sum = byValue + byWeight;
        return (int) (age > 200 ? sum + (long) Math.ceil(sum / 10.0) : sum);
    }
}
