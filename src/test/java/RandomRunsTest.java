import java.lang.reflect.InvocationTargetException;
import java.lang.reflect.Method;
import java.lang.reflect.Modifier;
import java.util.ArrayList;
import java.util.Comparator;
import java.util.List;
import java.util.Random;
import java.util.TreeMap;

/** Random runs of calls, always the same ones: BondWarehouse answers as the model does. */
public final class RandomRunsTest {
    private static final int RUNS = 2000;
    private static final int CALLS = 512;
    private static final String[] CHANGES = {"enter", "enter", "enter", "withdraw", "withdraw", "sendAbroad", "drawBack",
        "move", "split", "merge", "weigh", "lock", "open", "open", "breakSeal", "deposit", "deposit", "setBond",
        "setRateByValue", "setRateByWeight", "pass", "run", "undo", "keep", "goBack"};

    /** What a run does more often than others, so that rare states are reached as well. */
    private enum Mood { PLAIN, RICH, POOR, SLOW, HEAVY, BROKEN, ASKING }

    private static final String[] REASONS = {"whyNoEntry", "whyNoWithdrawal", "whyNoExport", "whyNoMove",
        "whyNoDrawback"};

    private final Random random;
    private final List<Method> face = new ArrayList<>();
    private final TreeMap<String, Integer> outcomes;

    private BondWarehouse made;
    private Model model;
    private Mood mood;

    private RandomRunsTest(long seed, TreeMap<String, Integer> outcomes) {
        random = new Random(seed);
        this.outcomes = outcomes;
        for (Method m : BondWarehouse.class.getDeclaredMethods()) {
            if (Modifier.isPublic(m.getModifiers())) {
                face.add(m);
            }
        }
        face.sort(Comparator.comparing(Method::getName));
    }

    public static void main(String[] args) throws ReflectiveOperationException {
        TreeMap<String, Integer> outcomes = new TreeMap<>();
        for (int run = 0; run < RUNS; run++) {
            Check.about("run " + run);
            new RandomRunsTest(run, outcomes).go();
        }
        Check.about("the random runs");
        seesEnough(outcomes);
        Check.end();
    }

    /** A comparison that never reaches an answer proves nothing about it. */
    private static void seesEnough(TreeMap<String, Integer> outcomes) {
        for (String call : CHANGES) {
            for (String ending : new String[] {"answers", "IllegalStateException", "IndexOutOfBoundsException",
                "IllegalArgumentException"}) {
                if (isDeclared(call, ending)) {
                    Check.compare(call + " " + ending, "true",
                            Boolean.toString(outcomes.getOrDefault(call + " " + ending, 0) > 20));
                }
            }
        }
        int[] reasons = {5, 5, 5, 5, 3};
        for (int i = 0; i < REASONS.length; i++) {
            for (int reason = 0; reason <= reasons[i]; reason++) {
                Check.compare(REASONS[i] + " = " + reason, "true",
                        Boolean.toString(outcomes.getOrDefault(REASONS[i] + " = " + reason, 0) > 20));
            }
        }
    }

    private static boolean isDeclared(String call, String ending) {
        if (ending.equals("answers")) {
            return true;
        }
        for (Method m : BondWarehouse.class.getDeclaredMethods()) {
            if (m.getName().equals(call)) {
                for (Class<?> type : m.getExceptionTypes()) {
                    if (type.getSimpleName().equals(ending)) {
                        return true;
                    }
                }
            }
        }
        return false;
    }

    private void go() throws ReflectiveOperationException {
        made = new BondWarehouse();
        model = new Model();
        mood = Mood.values()[random.nextInt(Mood.values().length)];
        StringBuilder text = new StringBuilder();
        for (int i = 0; i < CALLS; i++) {
            if (text.length() == 0 && random.nextInt(12) == 0) {
                text.append(journal());
            }
            if (text.length() > 0 && random.nextInt(8) != 0) {
                both(method("append"), new int[] {text.charAt(0)});
                text.deleteCharAt(0);
                continue;
            }
            Method m = choose(text.length() > 0);
            int[] arguments = new int[m.getParameterCount()];
            for (int k = 0; k < arguments.length; k++) {
                arguments[k] = argument(m.getName(), k);
            }
            both(m, arguments);
        }
        for (int i = 0; i < 6; i++) {
            Check.compare("by entries and by totals", Integer.toString(made.stockByEntries(i)),
                    Integer.toString(made.stockByTotals(i)));
        }
        Check.compare("balance", Integer.toString(made.balance()), Integer.toString(made.balanceByTotals()));
    }

    private Method method(String name) {
        for (Method m : face) {
            if (m.getName().equals(name)) {
                return m;
            }
        }
        throw new IllegalStateException(name);
    }

    private Method choose(boolean typing) {
        if (random.nextInt(mood == Mood.SLOW ? 2 : 5) == 0) {
            String often = often();
            if (often != null) {
                return method(often);
            }
        }
        if (random.nextInt(10) < 6) {
            Method m = method(CHANGES[random.nextInt(CHANGES.length)]);
            boolean rare = m.getName().equals("run") && typing || m.getName().equals("goBack")
                    || m.getName().equals("undo");
            return rare && random.nextInt(3) != 0 ? method("enter") : m;
        }
        Method m = face.get(random.nextInt(face.size()));
        return m.getName().equals("clearText") && random.nextInt(3) != 0 ? method("firstError") : m;
    }

    private String often() {
        switch (mood) {
            case RICH:
                return "deposit";
            case POOR:
                return "weigh";
            case SLOW:
                return "pass";
            case HEAVY:
                return random.nextBoolean() ? "enter" : "whyNoMove";
            case BROKEN:
                return new String[] {"lock", "breakSeal", "open"}[random.nextInt(3)];
            case ASKING:
                return REASONS[random.nextInt(REASONS.length)];
            default:
                return null;
        }
    }

    private int argument(String call, int place) {
        if (random.nextInt(40) == 0) {
            int[] odd = {-1, 0, 1, 5, 6, 999, 1000, 9999, 10000, 50001, Integer.MIN_VALUE, Integer.MAX_VALUE};
            return odd[random.nextInt(odd.length)];
        }
        switch (call) {
            case "enter":
            case "whyNoEntry":
                return goods(place);
            case "deposit":
                return 1 + random.nextInt(mood == Mood.RICH ? 9999 : mood == Mood.POOR ? 20 : 400);
            case "setBond":
                return random.nextInt(4) == 0 ? model.dutyAtStake() + random.nextInt(3) - 1 : random.nextInt(50001);
            case "pass":
                return mood == Mood.SLOW ? 80 + random.nextInt(21) : 1 + random.nextInt(random.nextBoolean() ? 100 : 12);
            case "append":
                return "ewxgmlobdt0123456789*>;".charAt(random.nextInt(23));
            case "keep":
            case "goBack":
                return random.nextInt(2);
            case "entryAt":
                return random.nextInt(17);
            case "dutyLater":
                return place == 0 ? entry() : random.nextInt(366);
            case "merge":
                return entry();
            case "move":
            case "whyNoMove":
                return place == 0 ? entry() : random.nextInt(5);
            case "drawBack":
            case "whyNoDrawback":
            case "drawbackFor":
                return place == 0 ? random.nextInt(Math.max(1, model.receipts())) : weight();
            case "setRateByValue":
            case "setRateByWeight":
                return random.nextInt(place == 0 ? 6 : 61);
            case "dutyFromCheapest":
                return place == 0 ? random.nextInt(6) : 1 + random.nextInt(random.nextBoolean() ? 300 : 3000);
            default:
                return other(call, place);
        }
    }

    private int goods(int place) {
        switch (place) {
            case 0:
                return random.nextInt(6);
            case 1:
                return random.nextInt(3) == 0 || mood == Mood.HEAVY ? 1 + random.nextInt(999) : 1 + random.nextInt(100);
            case 2:
                return 1 + random.nextInt(random.nextInt(3) == 0 && mood != Mood.HEAVY ? 9999 : 800);
            default:
                return random.nextInt(3) == 0 ? 0 : random.nextInt(5);
        }
    }

    private int other(String call, int place) {
        if (place == 1) {
            return weight();
        }
        if (call.startsWith("receipt")) {
            return random.nextInt(13);
        }
        boolean chamber = call.equals("lock") || call.equals("open") || call.equals("breakSeal")
                || call.endsWith("In") || call.equals("isLocked") || call.equals("sealOf") || call.equals("isSealBroken");
        boolean entry = call.endsWith("Of") || call.endsWith("OfPart") || call.startsWith("is") || call.equals("withdraw")
                || call.equals("sendAbroad") || call.equals("split") || call.equals("weigh") || call.startsWith("whyNo")
                || call.equals("allowedWaste") || call.equals("chargeIfWeighed") || call.equals("daysToOverdue");
        return chamber ? random.nextInt(5) : entry ? entry() : random.nextInt(6);
    }

    private int entry() {
        if (model.entries() == 0 || random.nextInt(15) == 0) {
            return random.nextInt(60);
        }
        return model.entryAt(random.nextInt(model.entries()));
    }

    private int weight() {
        if (mood == Mood.POOR && random.nextInt(4) == 0) {
            return 1 + random.nextInt(5);
        }
        if (model.entries() > 0 && random.nextInt(3) == 0) {
            return Math.max(1, model.weightOf(entryOpen()) - random.nextInt(3));
        }
        return 1 + random.nextInt(random.nextInt(3) == 0 ? 999 : 60);
    }

    private int entryOpen() {
        return model.entryAt(random.nextInt(model.entries()));
    }

    private String journal() {
        StringBuilder text = new StringBuilder();
        int lines = 1 + random.nextInt(5);
        for (int i = 0; i < lines; i++) {
            text.append(i == 0 ? "" : ";").append(line());
        }
        if (random.nextInt(6) == 0) {
            text.setCharAt(random.nextInt(text.length()), "09*>;el".charAt(random.nextInt(7)));
        }
        return text.toString();
    }

    private String line() {
        char letter = "eewxgmlobdt".charAt(random.nextInt(11));
        StringBuilder text = new StringBuilder().append(letter);
        switch (letter) {
            case 'e':
                return text.append(goods(0)).append('*').append(goods(1)).append('*').append(goods(2)).append('>')
                        .append(goods(3)).toString();
            case 'w':
            case 'x':
            case 'g':
                return text.append(entry()).append('*').append(weight()).toString();
            case 'm':
                return text.append(entry()).append('>').append(random.nextInt(5)).toString();
            case 'd':
                return text.append(1 + random.nextInt(500)).toString();
            case 't':
                return text.append(1 + random.nextInt(100)).toString();
            default:
                return text.append(random.nextInt(5)).toString();
        }
    }

    private void both(Method m, int[] arguments) throws ReflectiveOperationException {
        Method twin = Model.class.getDeclaredMethod(m.getName(), m.getParameterTypes());
        String due = outcome(twin, model, arguments);
        String got = outcome(m, made, arguments);
        StringBuilder call = new StringBuilder(m.getName());
        for (int a : arguments) {
            call.append(' ').append(a);
        }
        Check.compare(call.toString(), due, got);
        String ending = got.startsWith("throws ") ? " " + got.substring(7) : " answers";
        outcomes.merge(m.getName() + ending, 1, Integer::sum);
        if (m.getName().startsWith("whyNo")) {
            outcomes.merge(m.getName() + " = " + got, 1, Integer::sum);
        }
    }

    private static String outcome(Method m, Object object, int[] arguments) throws ReflectiveOperationException {
        Object[] boxed = new Object[arguments.length];
        for (int i = 0; i < arguments.length; i++) {
            boxed[i] = arguments[i];
        }
        try {
            return String.valueOf(m.invoke(object, boxed));
        } catch (InvocationTargetException e) {
            return "throws " + e.getCause().getClass().getSimpleName();
        }
    }
}
