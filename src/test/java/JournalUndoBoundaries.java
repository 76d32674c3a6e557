import java.util.function.Supplier;

/** Promises 77 to 84, sentence by sentence: journal texts, undo and snapshots. */
final class JournalUndoBoundaries {
    private static final Supplier<BondWarehouse> EMPTY = Fresh::empty;
    private static final Supplier<BondWarehouse> BUSY = Fresh::busy;

    private JournalUndoBoundaries() {
    }

    static void all() {
        append();
        clearText();
        firstError();
        run();
        runUndone();
        runRefused();
        undo();
        savedStates();
        keep();
        goBack();
        goBackRefused();
    }

    private static Supplier<BondWarehouse> busyAfter(Fresh.Steps steps) {
        return () -> Fresh.busyAfter(steps);
    }

    private static Supplier<BondWarehouse> after(Fresh.Steps steps) {
        return () -> Fresh.after(steps);
    }

    private static Supplier<BondWarehouse> typed(String text) {
        return after(w -> Fresh.type(w, text));
    }

    private static void append() {
        Sentences.promise(77);
        Sentences.says("Appends a character to the buffer");
        Fresh.gives("what is appended is there", 1, EMPTY, w -> {
            Fresh.type(w, "d7");
            return w.run();
        });
        Fresh.gives("it is no error by itself", 1, EMPTY, w -> w.append('~'));
        Sentences.says("Returns the new length of the buffer");
        Fresh.gives("the first", 1, EMPTY, w -> w.append('e'));
        Fresh.gives("the fifth", 5, BUSY, w -> w.append('0'));
        Fresh.gives("the sixtieth", 60, typed("0".repeat(59)), w -> w.append('0'));
        Fresh.gives("after a clearText", 1, BUSY, w -> Fresh.last(w.clearText(), w.append('0')));
        Sentences.says("`code`: a character code, 33 to 126");
        Fresh.gives("33", 1, EMPTY, w -> w.append(33));
        Fresh.gives("126", 1, EMPTY, w -> w.append(126));
        Sentences.says("Throws `IllegalArgumentException` if code is out of range");
        Fresh.refusesEach("code", Check.ARGUMENT, Fresh.outside(33, 126), BUSY, BondWarehouse::append);
        Fresh.refuses("0", Check.ARGUMENT, BUSY, w -> w.append(0));
        Fresh.refusesEach("code, and full", Check.ARGUMENT, Fresh.outside(33, 126), typed("0".repeat(60)),
                BondWarehouse::append);
        Sentences.says("Throws `IllegalStateException` if the buffer contains 60 characters");
        Fresh.refuses("full", Check.STATE, typed("0".repeat(60)), w -> w.append('0'));
        Fresh.refuses("full, of a text without error", Check.STATE, typed("l0;".repeat(20)), w -> w.append('l'));
        Fresh.gives("nothing is saved", 0, typed("d1"), BondWarehouse::savedStates);
    }

    private static void clearText() {
        Sentences.promise(78);
        Sentences.says("Empties the buffer");
        Fresh.gives("empty", 0, BUSY, w -> Fresh.last(w.clearText(), w.clearText()));
        Fresh.gives("of an error", 0, typed("q"), w -> Fresh.last(w.clearText(), w.firstError()));
        Fresh.gives("a new text", 1, BUSY, w -> Fresh.last(w.clearText(), Fresh.run(w, "d1")));
        Fresh.gives("nothing is saved", 0, typed("d1"), w -> Fresh.last(w.clearText(), w.savedStates()));
        Sentences.says("Returns the length that it had");
        Fresh.gives("0", 0, EMPTY, BondWarehouse::clearText);
        Fresh.gives("1", 1, typed("q"), BondWarehouse::clearText);
        Fresh.gives("4", 4, BUSY, BondWarehouse::clearText);
        Fresh.gives("60", 60, typed("0".repeat(60)), BondWarehouse::clearText);
    }

    private static void firstError() {
        Sentences.promise(79);
        Sentences.says("Finds the first error of the buffer");
        Fresh.changesNothing("asking", BUSY, BondWarehouse::firstError);
        Fresh.changesNothing("asking for an error", typed("l0;k;k"), BondWarehouse::firstError);
        Fresh.gives("asked twice", 3, typed("l0;k;k"), w -> Fresh.last(w.firstError(), w.firstError()));
        Sentences.says("Returns the index of the first character that is an error");
        Fresh.gives("at once", 0, typed("0"), BondWarehouse::firstError);
        Fresh.gives("the second", 1, typed("e6"), BondWarehouse::firstError);
        Fresh.gives("the first of two", 3, typed("l0;k;k"), BondWarehouse::firstError);
        Fresh.gives("the sixtieth", 59, typed("l0;".repeat(19) + "l0l"), BondWarehouse::firstError);
        Fresh.gives("all 60 of them", 0, typed("0".repeat(60)), BondWarehouse::firstError);
        Sentences.says("the length of the buffer if there is none (also if the buffer is not a complete journal text)");
        Fresh.gives("empty", 0, EMPTY, BondWarehouse::firstError);
        Fresh.gives("complete", 2, typed("l0"), BondWarehouse::firstError);
        Fresh.gives("begun", 1, typed("l"), BondWarehouse::firstError);
        Fresh.gives("a line is missing", 3, typed("l0;"), BondWarehouse::firstError);
        Fresh.gives("a number is missing", 5, typed("e0*1*"), BondWarehouse::firstError);
        Fresh.gives("60 characters that are not complete", 60, typed("l0;".repeat(20)), BondWarehouse::firstError);
        Fresh.gives("60 characters that are complete", 60, typed("l0;".repeat(19) + "d12"), BondWarehouse::firstError);
    }

    private static void run() {
        Sentences.promise(80);
        Sentences.says("Carries out the lines in the buffer, one after the other, up to the first one whose method"
                + " would throw an exception, and empties the buffer");
        Fresh.gives("nothing behind a refusal", 456, BUSY, w -> Fresh.last(Fresh.run(w, "d2;l4;d5"), w.account()));
        Fresh.gives("the line that is refused changes nothing", 60, BUSY,
                w -> Fresh.last(Fresh.run(w, "x0*61"), w.weightOf(0)));
        Fresh.gives("emptied after a refusal", 0, BUSY, w -> Fresh.last(Fresh.run(w, "d2;l4;d5"), w.clearText()));
        Fresh.gives("emptied after all", 0, BUSY, w -> Fresh.last(Fresh.run(w, "d2"), w.clearText()));
        Fresh.gives("a line needs the one before", 3, EMPTY, w -> Fresh.run(w, "e0*5*5>0;x0*5;e0*5*5>0"));
        Sentences.says("Returns the number of lines that are carried out");
        Fresh.gives("one", 1, BUSY, w -> Fresh.run(w, "d1"));
        Fresh.gives("20 of 60 characters", 20, EMPTY, w -> Fresh.run(w, "l0;o0;".repeat(9) + "l1;d12"));
        Fresh.gives("two before a refusal", 2, BUSY, w -> Fresh.run(w, "d1;d1;l4;d1"));
        String[] refused = {"e0*1*1>4", "w2*1", "w0*61", "x2*1", "x0*61", "g2*0", "g0*61", "m2>0", "m0>0", "m0>4", "l4",
            "o0", "b0", "w59*1"};
        for (String line : refused) {
            Fresh.gives("none: " + line, 0, BUSY, w -> Fresh.run(w, line));
            Fresh.gives("all but the last: " + line, 1, BUSY, w -> Fresh.run(w, "d1;" + line));
            Fresh.gives("none behind it: " + line, 0, BUSY, w -> Fresh.run(w, line + ";d1"));
        }
        Fresh.gives("too rich", 0, after(w -> {
            for (int i = 0; i < 10; i++) {
                w.deposit(9999);
            }
        }), w -> Fresh.run(w, "d10"));
        Fresh.gives("too late", 1, after(w -> Fresh.pass(w, 9990)), w -> Fresh.run(w, "t9;t1;d1"));
        Fresh.gives("debt on the way", 2, EMPTY, w -> Fresh.run(w, "e0*5*50>0;g0*0;e0*5*5>0"));
    }

    private static void runUndone() {
        Sentences.says("Undoable, as one call, also if no line is carried out");
        Fresh.saves("run of three lines", BUSY, w -> Fresh.run(w, "d1;l0;d1"));
        Fresh.saves("run with a refusal", BUSY, w -> Fresh.run(w, "d1;l4"));
        Fresh.saves("run of no line", BUSY, w -> Fresh.run(w, "l4"));
        Fresh.gives("one state for eight lines", 1, EMPTY,
                w -> Fresh.last(Fresh.run(w, "d1;d1;d1;d1;d1;d1;d1;d1"), w.savedStates()));
        Fresh.gives("one state for no line", 1, EMPTY, w -> Fresh.last(Fresh.run(w, "o0"), w.savedStates()));
        Fresh.gives("calls are saved again afterwards", 3, EMPTY, w -> {
            Fresh.run(w, "o0");
            w.deposit(1);
            Fresh.run(w, "d1;d1");
            return w.savedStates();
        });
        Fresh.gives("and undone one by one", 1, EMPTY, w -> {
            Fresh.run(w, "d1");
            w.deposit(1);
            w.undo();
            return w.account();
        });
    }

    private static void runRefused() {
        Sentences.says("Throws `IllegalArgumentException` if the buffer is not a complete journal text"
                + " (the buffer stays)");
        String[] texts = {"", "l", "l0;", ";", "d1;q", "q;d1", "e0*1*1", "e0*1*1>", "w0", "g0*", "l0;".repeat(20)};
        for (String text : texts) {
            Fresh.refuses("«" + text + "»", Check.ARGUMENT, typed(text), BondWarehouse::run);
            Fresh.gives("«" + text + "» stays", text.length(), typed(text), w -> {
                Check.refuses("a run", Check.ARGUMENT, w::run);
                return w.clearText();
            });
        }
        Fresh.refuses("just emptied", Check.ARGUMENT, after(w -> Fresh.run(w, "d1")), BondWarehouse::run);
        Fresh.gives("completed afterwards", 2, typed("d1;l"), w -> {
            Check.refuses("a run", Check.ARGUMENT, w::run);
            w.append('0');
            return w.run();
        });
        Fresh.gives("calls are saved afterwards", 1, typed("d1;"), w -> {
            Check.refuses("a run", Check.ARGUMENT, w::run);
            w.deposit(1);
            return w.savedStates();
        });
    }

    private static void undo() {
        Sentences.promise(81);
        Sentences.says("Restores the state that was saved last, and removes it from the saved states");
        Fresh.gives("the last", 1, EMPTY, w -> {
            w.deposit(1);
            w.deposit(10);
            w.undo();
            return w.account();
        });
        Fresh.gives("the one before", 0, EMPTY, w -> {
            w.deposit(1);
            w.deposit(10);
            w.undo();
            w.undo();
            return w.account();
        });
        Fresh.gives("a new call after an undo", 101, EMPTY, w -> {
            w.deposit(1);
            w.deposit(10);
            w.undo();
            w.deposit(100);
            w.deposit(1000);
            w.undo();
            return w.account();
        });
        Fresh.gives("undo is not saved itself", 0, after(w -> w.deposit(1)),
                w -> Fresh.last(w.undo(), w.savedStates()));
        Sentences.says("Returns the number of saved states that are left");
        Fresh.gives("five of six", 5, BUSY, BondWarehouse::undo);
        Fresh.gives("none of one", 0, after(w -> w.deposit(1)), BondWarehouse::undo);
        Sentences.says("Throws `IllegalStateException` if no state is saved");
        Fresh.refuses("at first", Check.STATE, EMPTY, BondWarehouse::undo);
        Fresh.refuses("after all", Check.STATE, after(w -> {
            w.deposit(1);
            w.undo();
        }), BondWarehouse::undo);
        Fresh.refuses("after six of seven", Check.STATE, after(w -> {
            for (int i = 0; i < 7; i++) {
                w.deposit(1);
            }
            for (int i = 0; i < 6; i++) {
                w.undo();
            }
        }), BondWarehouse::undo);
        Fresh.refuses("a snapshot is no saved state", Check.STATE, after(w -> w.keep(0)), BondWarehouse::undo);
    }

    private static void savedStates() {
        Sentences.promise(82);
        Sentences.says("Returns the number of saved states, 0 to 6");
        for (int calls = 0; calls <= 14; calls++) {
            int made = calls;
            Fresh.gives(made + " calls", Math.min(6, made), after(w -> {
                for (int i = 0; i < made; i++) {
                    w.deposit(1);
                }
            }), BondWarehouse::savedStates);
        }
        Fresh.gives("six, and two undone", 4, BUSY, w -> Fresh.last(w.undo(), w.undo(), w.savedStates()));
    }

    private static void keep() {
        Sentences.promise(83);
        Sentences.says("Takes a snapshot of the state, which replaces the one in the slot");
        Fresh.gives("another one", 7, after(w -> {
            w.keep(0);
            w.deposit(7);
            w.keep(0);
            w.deposit(1);
        }), w -> Fresh.last(w.goBack(0), w.account()));
        Fresh.gives("not that in the other slot", 0, after(w -> {
            w.keep(1);
            w.deposit(7);
            w.keep(0);
        }), w -> Fresh.last(w.goBack(1), w.account()));
        Fresh.gives("no state is saved", 0, EMPTY, w -> Fresh.last(w.keep(0), w.savedStates()));
        Sentences.says("Returns the number of open entries");
        Fresh.gives("none", 0, EMPTY, w -> w.keep(1));
        Fresh.gives("four", 4, BUSY, w -> w.keep(0));
        Sentences.says("`slot`: 0 or 1");
        Fresh.gives("0", 4, BUSY, w -> w.keep(0));
        Fresh.gives("1", 4, BUSY, w -> w.keep(1));
        Sentences.says("Throws `IndexOutOfBoundsException` if there is no such slot");
        Fresh.refusesEach("slot", Check.INDEX, Fresh.outside(0, 1), BUSY, BondWarehouse::keep);
    }

    private static void goBack() {
        Sentences.promise(84);
        Sentences.says("Restores a snapshot, which stays in its slot");
        Fresh.gives("back", 46 - 6, BUSY, w -> Fresh.last(w.goBack(0), w.dutiesPaid()));
        Fresh.gives("twice", 0, BUSY, w -> Fresh.last(w.goBack(0), w.pass(5), w.goBack(0), w.day()));
        Fresh.gives("what is done then leaves the snapshot", 60, BUSY, w -> {
            w.goBack(0);
            w.sendAbroad(0, 60);
            w.goBack(0);
            return w.weightOf(0);
        });
        Fresh.gives("undone and back again", 0, BUSY, w -> Fresh.last(w.goBack(0), w.undo(), w.goBack(0), w.day()));
        Sentences.says("Undoable");
        Fresh.saves("goBack", BUSY, w -> w.goBack(0));
        Fresh.saves("goBack to the same", busyAfter(w -> w.keep(1)), w -> w.goBack(1));
        Sentences.says("Returns the number of open entries after the call");
        Fresh.gives("as many", 4, BUSY, w -> w.goBack(0));
        Fresh.gives("more", 4, busyAfter(w -> w.sendAbroad(0, 60)), w -> w.goBack(0));
        Fresh.gives("less", 4, busyAfter(w -> w.split(0, 1)), w -> w.goBack(0));
        Fresh.gives("none", 0, after(w -> {
            w.keep(0);
            w.enter(0, 1, 1, 0);
        }), w -> w.goBack(0));
    }

    private static void goBackRefused() {
        Sentences.says("`slot`: 0 or 1");
        Fresh.gives("0", 4, BUSY, w -> w.goBack(0));
        Fresh.gives("1", 4, busyAfter(w -> w.keep(1)), w -> w.goBack(1));
        Sentences.says("Throws `IndexOutOfBoundsException` if there is no such slot");
        Fresh.refusesEach("slot", Check.INDEX, Fresh.outside(0, 1), BUSY, BondWarehouse::goBack);
        Sentences.says("Throws `IllegalStateException` if the slot is empty");
        Fresh.refuses("0", Check.STATE, EMPTY, w -> w.goBack(0));
        Fresh.refuses("1", Check.STATE, BUSY, w -> w.goBack(1));
        Fresh.refuses("0, and 1 is filled", Check.STATE, after(w -> w.keep(1)), w -> w.goBack(0));
    }
}
