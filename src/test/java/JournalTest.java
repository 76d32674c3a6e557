import java.util.regex.Matcher;
import java.util.regex.Pattern;

/** Promises 77 to 80: journal texts. */
public final class JournalTest {
    private static final String LETTERS = "ewxgmlobdt";

    /** A journal text as a pattern, which tells by itself what may still become one. */
    private static final Pattern TEXT;

    static {
        String entry = "(?:[0-9]|[1-5][0-9])";
        String weight = "[1-9][0-9]{0,2}";
        String amount = "[1-9][0-9]{0,3}";
        String line = "(?:e[0-5]\\*" + weight + "\\*" + amount + ">[0-4]"
                + "|[wx]" + entry + "\\*" + weight
                + "|g" + entry + "\\*(?:0|" + weight + ")"
                + "|m" + entry + ">[0-4]|[lob][0-4]|d" + amount + "|t(?:100|[1-9][0-9]?))";
        TEXT = Pattern.compile(line + "(?:;" + line + ")*");
    }

    private JournalTest() {
    }

    public static void main(String[] args) {
        appending();
        clearing();
        errors();
        errorsOfAllShortTexts();
        errorsOfLongTexts();
        running();
        runningEachLine();
        runningToARefusal();
        runningRefused();
        runningIsOneCall();
        Check.end();
    }

    static void type(BondWarehouse w, String text) {
        for (int i = 0; i < text.length(); i++) {
            w.append(text.charAt(i));
        }
    }

    private static void appending() {
        Check.promise(77);
        BondWarehouse w = new BondWarehouse();
        Check.is("the least", 1, () -> w.append(33));
        Check.is("the most", 2, () -> w.append(126));
        Check.refuses("below", Check.ARGUMENT, () -> w.append(32));
        Check.refuses("above", Check.ARGUMENT, () -> w.append(127));
        Check.refuses("far below", Check.ARGUMENT, () -> w.append(Integer.MIN_VALUE));
        Check.refuses("far above", Check.ARGUMENT, () -> w.append(Integer.MAX_VALUE));
        for (int i = 2; i < 59; i++) {
            w.append('0');
        }
        Check.is("the last", 60, () -> w.append('0'));
        Check.refuses("full", Check.STATE, () -> w.append('0'));
        Check.refuses("argument before state", Check.ARGUMENT, () -> w.append(32));
        Check.is("nothing is saved", 0, w::savedStates);
        Check.is("length", 60, w::clearText);
    }

    private static void clearing() {
        Check.promise(78);
        BondWarehouse w = new BondWarehouse();
        Check.is("empty", 0, w::clearText);
        type(w, "l0;");
        Check.is("three", 3, w::clearText);
        Check.is("empty then", 0, w::clearText);
        Check.is("a new text", 1, () -> w.append('l'));
        Check.is("nothing is saved", 0, w::savedStates);
    }

    private static int errorIn(String text) {
        BondWarehouse w = new BondWarehouse();
        type(w, text);
        return w.firstError();
    }

    private static void errors() {
        Check.promise(79);
        String[] texts = {"", "e", "e6", "e00", "e0*0", "e0*999", "e0*9990", "e0*1>", "e0*1*0", "e0*1*9999",
            "e0*1*99990", "e0*1*1>4", "e0*1*1>5", "e0*1*1>40", "e0*1*1;", "e0*1*1>0;;", "e*", "w59*1", "w60", "w600",
            "w05", "w0*0", "w0>", "x9*999;", "x9*1000", "x*", "g0*0", "g0*00", "g0*01", "g0*0;g1*999", "g60", "m59>4",
            "m59>5", "m5*", "m0>00", "l4", "l5", "l44", "o0;o", "b;", "d1", "d0", "d9999", "d99999", "d1;", "t100",
            "t101", "t1000", "t11", "t110", "t0", "t99", ";", "l0;;", "L0", "a", "~", "!", "l0l", "l0;x", "5", "m6>",
            "w5*5*5", "l0*"};
        int[] due = {0, 1, 1, 2, 3, 6, 6, 4, 5, 9, 9, 8, 7, 8, 6, 9, 1, 5, 2, 2, 2, 3, 2, 7, 6, 1, 4, 4, 4, 11, 2, 5, 4,
            2, 4, 2, 1, 2, 4, 1, 2, 1, 5, 5, 3, 4, 3, 4, 3, 3, 1, 3, 0, 3, 0, 0, 0, 0, 2, 4, 0, 3, 4, 2};
        for (int i = 0; i < texts.length; i++) {
            String text = texts[i];
            Check.is(text, due[i], () -> errorIn(text));
        }
        BondWarehouse w = new BondWarehouse();
        type(w, "l0;k0");
        Check.is("asked", 3, w::firstError);
        Check.is("asked again", 3, w::firstError);
        type(w, ";l0");
        Check.is("with more behind", 3, w::firstError);
        Check.is("nothing is saved", 0, w::savedStates);
        Check.is("the buffer stays", 8, w::clearText);
    }

    /** The first error by the pattern: what is no match, and would be none with more behind. */
    private static int errorByPattern(String text) {
        for (int length = 1; length <= text.length(); length++) {
            Matcher m = TEXT.matcher(text.substring(0, length));
            if (!m.matches() && !m.hitEnd()) {
                return length - 1;
            }
        }
        return text.length();
    }

    private static void errorsOfAllShortTexts() {
        Check.promise(79);
        String signs = LETTERS + "012345679*>;";
        StringBuilder text = new StringBuilder();
        lengthen(text, signs, 3);
        for (String begin : new String[] {"e0*1", "e5*99", "e0*1*1", "e0*1*1>", "w5", "x1*", "g5*", "m4", "d99", "t1",
            "l1;t", "e3*999*999", "m0>1;"}) {
            text.setLength(0);
            text.append(begin);
            lengthen(text, signs, 2);
        }
    }

    private static void lengthen(StringBuilder text, String signs, int more) {
        String now = text.toString();
        Check.is(now, errorByPattern(now), () -> errorIn(now));
        if (more == 0) {
            return;
        }
        for (int i = 0; i < signs.length(); i++) {
            text.append(signs.charAt(i));
            lengthen(text, signs, more - 1);
            text.setLength(text.length() - 1);
        }
    }

    private static void errorsOfLongTexts() {
        Check.promise(79);
        String text = "e0*100*1000>0;w0*50;x0*1;g0*0;m59>4;l0;o0;b0;d9999;t100;l0;o";
        Check.is("without error", 60, () -> errorIn(text));
        for (int i = 0; i < 60; i++) {
            for (char c : new char[] {'0', '1', '6', '9', '*', '>', ';', 'e', 'l', '!', '~'}) {
                String changed = text.substring(0, i) + c + text.substring(i + 1);
                Check.is(changed, errorByPattern(changed), () -> errorIn(changed));
            }
        }
    }

    private static void running() {
        Check.promise(80);
        BondWarehouse w = new BondWarehouse();
        type(w, "d9999;e1*100*1000>2;e0*7*70>3;m1>2;w0*50;x0*10;g0*39");
        Check.is("seven lines", 7, w::run);
        Check.is("empty then", 0, w::clearText);
        Check.is("the deposit, less a duty and a charge", 9999 - 105 - 3, w::account);
        Check.is("weight", 39, () -> w.weightOf(0));
        Check.is("chamber", 2, () -> w.chamberOf(1));
        Check.is("withdrawn", 50, () -> w.withdrawn(1));
        Check.is("abroad", 10, () -> w.sentAbroad(1));
        Check.is("lost", 1, () -> w.lost(1));
        Check.is("saved as one call", 1, w::savedStates);
        type(w, "l2;b2;t100;o2");
        Check.is("four lines", 4, w::run);
        Check.is("day", 100, w::day);
        Check.is("not proved", false, () -> w.isProved(0));
        Check.is("open", false, () -> w.isLocked(2));
        Check.is("saved as two calls", 2, w::savedStates);
        type(w, "l0;l1;l2;l3;l4;o0;o1;o2;o3;o4;l0;l1;l2;l3;l4;o0;o1;o2;o3;o4");
        Check.is("twenty lines", 20, w::run);
        Check.is("ten seals", 12, () -> w.lock(0));
    }

    private static void runningEachLine() {
        Check.promise(80);
        String[] texts = {"e5*999*9999>4", "w0*1", "x0*1", "g0*0", "m0>1", "l0", "o4", "b4", "d1", "t1"};
        int[] done = {1, 1, 1, 1, 1, 1, 1, 0, 1, 1};
        for (int i = 0; i < texts.length; i++) {
            BondWarehouse w = new BondWarehouse();
            w.deposit(1000);
            w.enter(0, 10, 100, 0);
            w.lock(4);
            if (texts[i].charAt(0) == 'b') {
                w.breakSeal(4);
            }
            if (texts[i].charAt(0) == 'e') {
                w.open(4);
            }
            type(w, texts[i]);
            Check.is(texts[i], done[i], w::run);
            Check.is(texts[i] + " empties the buffer", 0, w::clearText);
        }
        BondWarehouse w = new BondWarehouse();
        type(w, "e5*999*9999>4");
        w.run();
        Check.is("kind", 5, () -> w.kindOf(0));
        Check.is("weight", 999, () -> w.weightOf(0));
        Check.is("value", 9999, () -> w.valueOf(0));
        Check.is("chamber", 4, () -> w.chamberOf(0));
        type(w, "t100");
        w.run();
        Check.is("day", 100, w::day);
        type(w, "b0");
        Check.is("no line", 0, w::run);
        Check.is("it is saved all the same", 3, w::savedStates);
    }

    private static void runningToARefusal() {
        Check.promise(80);
        BondWarehouse w = new BondWarehouse();
        type(w, "e0*10*10>0;l0;l0;d5");
        Check.is("two lines", 2, w::run);
        Check.is("nothing behind them", 0, w::account);
        Check.is("locked", true, () -> w.isLocked(0));
        Check.is("empty", 0, w::clearText);
        type(w, "d1;g0*11;d1");
        Check.is("locked, and too heavy", 1, w::run);
        type(w, "o0;d1;g0*11;d1");
        Check.is("too heavy", 2, w::run);
        type(w, "d1;w1*1;d1");
        Check.is("no such entry", 1, w::run);
        type(w, "d1;w0*11");
        Check.is("more than it has", 1, w::run);
        Check.is("deposits", 4, w::deposits);
        type(w, "x59*1");
        Check.is("none", 0, w::run);
        Check.is("saved", 6, w::savedStates);
    }

    private static void runningRefused() {
        Check.promise(80);
        BondWarehouse w = new BondWarehouse();
        Check.refuses("empty", Check.ARGUMENT, w::run);
        for (String text : new String[] {"l", "l0;", "d5;l0;", "l5", "d5;l5", "e0*1*1>", "e0*1*1", "e0", "w0", "w0*",
            "m0", "m0>", "g0*", "d", "t", "q", ";", "d5;;d5", "d5l", "d5*1", "l00"}) {
            w.clearText();
            type(w, text);
            Check.refuses(text, Check.ARGUMENT, w::run);
            Check.is(text + " stays", text.length(), w::clearText);
        }
        Check.is("nothing is done", 0, w::account);
        Check.is("nothing is saved", 0, w::savedStates);
        type(w, "d5;l");
        Check.refuses("not complete", Check.ARGUMENT, w::run);
        type(w, "0");
        Check.is("complete", 2, w::run);
    }

    private static void runningIsOneCall() {
        Check.promise(80);
        BondWarehouse w = new BondWarehouse();
        w.deposit(100);
        type(w, "d1;d2;d3;d4;d5;d6;d7;d8");
        w.run();
        Check.is("saved", 2, w::savedStates);
        Check.is("account", 136, w::account);
        Check.is("undone at once", 1, w::undo);
        Check.is("account then", 100, w::account);
        Check.is("the buffer stays empty", 0, w::clearText);
        w.deposit(1);
        Check.is("calls are saved again", 2, w::savedStates);
    }
}
