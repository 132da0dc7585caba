/** Promises 1 to 3: a new object, and the rows of the live table. */
public final class RowsTest extends Sentences {
    public static void main(String[] arguments) {
        new RowsTest().runAll();
    }

    @Override
    void tell() {
        promise1();
        promise1UsedUp();
        promise2();
        promise2Refused();
        promise2Log();
        promise2FullLog();
        promise3();
        promise3Refused();
        promise3FullLog();
    }

    private void promise1() {
        test(1, "Creates a live table without rows", "all keys", () -> {
            Used x = new Used();
            due("rows", x.table(LIVE, 0), 0);
            for (int key = 0; key < 32; key++) {
                due("value " + key, x.value(LIVE, key), NONE);
            }
        });
        test(1, "There is the live table, without rows at first.", "empty, but there", () -> {
            Used x = new Used();
            due("number", x.table(LIVE, 0), 0);
            due("sum", x.table(LIVE, 1), 0);
        });
        test(1, "without a copy and without an old table", "no copy", () -> {
            Used x = new Used();
            dueCopy("new", x, 0, NONE, NONE, NONE, NONE, NONE);
            due("rows of the shadow table", x.table(SHADOW, 0), NONE);
        });
        test(1, "without a copy and without an old table", "no old table", () -> {
            Used x = new Used();
            due("rows of the old table", x.table(OLD, 0), NONE);
            due("a value of the old table", x.value(OLD, 0), NONE);
        });
        test(1, "with an empty text and an empty history", "empty text", () -> {
            due("clearText", new Used().clearText(), 0);
            due("fault", new Used().fault(), 0);
        });
        test(1, "with an empty text and an empty history", "empty history", () -> {
            due("states", new Used().states(), 0);
            due("undo", new Used().undo(), NONE);
        });
        test(1, "without a snapshot", "nothing to restore", () -> due("restore", new Used().restore(), NOT_POSSIBLE));
        test(1, "There are the settings STEPS (1 to 8; 3 at first), LAG (0 to 24; 6 at first), "
            + "PATIENCE (1 to 20; 5 at first) and STRICT (0 or 1; 0 at first).", "at first", () -> {
            Used x = new Used();
            due("STEPS", x.setting(STEPS), 3);
            due("LAG", x.setting(LAG), 6);
            due("PATIENCE", x.setting(PATIENCE), 5);
            due("STRICT", x.setting(STRICT), 0);
        });
        test(1, "Creates a live table without rows", "another object has rows, copy, text, snapshot", () -> {
            Used other = Setups.withText("t");
            other.put(0, 1);
            other.set(LAG, 0);
            other.begin(0, 1);
            other.tick(1);
            other.save();
            Used x = new Used();
            due("value", x.value(LIVE, 0), NONE);
            due("phase", x.copy(0), 0);
            due("LAG", x.setting(LAG), 6);
            due("ticks", x.total(7), 0);
            due("states", x.states(), 0);
            due("clearText", x.clearText(), 0);
            due("restore", x.restore(), NOT_POSSIBLE);
        });
    }

    private void promise1UsedUp() {
        String words = "An object is used for at most 512 calls after it has been made";
        test(1, words, "512 puts", () -> {
            Used x = new Used();
            for (int call = 0; call < 512; call++) {
                due("put " + call, x.put(call % 32, call % 100), call < 32 ? NONE : (call - 32) % 100);
            }
        });
        test(1, words, "511 times the most ticks", () -> {
            Used x = new Used();
            for (int call = 0; call < 511; call++) {
                due("tick " + call, x.tick(99), 0);
            }
            due("ticks", x.total(7), 511 * 99);
        });
        test(1, words, "255 copies", () -> {
            Used x = new Used();
            for (int call = 0; call < 255; call++) {
                due("begin " + call, x.begin(call % 5, call % 8 + 1), 0);
                due("giveUp " + call, x.giveUp(), 0);
            }
            due("copies begun", x.total(0), 255);
            due("copies given up", x.total(2), 255);
        });
        test(1, words, "runs of the longest ticks", () -> {
            Used x = new Used();
            Setups.write(x, "b01,t99,t99,t99,t99,t99,t99,t99,t99,t99,t99,t99,t99,t99,t99,t99,t99,t99,t99,g");
            int runs = 0;
            while (x.callsLeft() > 1) {
                due("run " + runs, x.run(), 20);
                runs++;
            }
            due("ticks", x.total(7), runs * 18L * 99);
        });
        test(1, words, "256 times put and undo", () -> {
            Used x = new Used();
            for (int call = 0; call < 256; call++) {
                due("put " + call, x.put(31, 99), NONE);
                due("undo " + call, x.undo(), 0);
            }
        });
        test(1, words, "512 characters", () -> {
            Used x = new Used();
            for (int call = 0; call < 512; call++) {
                due("append " + call, x.append('t'), call < 80 ? call + 1 : TOO_MANY);
            }
        });
    }

    private void promise2() {
        test(2, "`key`: 0 to 31", "least and greatest", () -> {
            Used x = new Used();
            due("put at 0", x.put(0, 5), NONE);
            due("put at 31", x.put(31, 6), NONE);
            due("value 0", x.value(LIVE, 0), 5);
            due("value 31", x.value(LIVE, 31), 6);
        });
        test(2, "A table has rows; a row has a key from 0 to 31 and a value from 0 to 99;", "a row for each key", () -> {
            Used x = new Used();
            for (int key = 0; key < 32; key++) {
                due("put at " + key, x.put(key, 99 - key), NONE);
            }
            for (int key = 0; key < 32; key++) {
                due("value " + key, x.value(LIVE, key), 99 - key);
            }
        });
        test(2, "`value`: 0 to 99", "least and greatest", () -> {
            Used x = new Used();
            due("put of 0", x.put(7, 0), NONE);
            due("value", x.value(LIVE, 7), 0);
            due("put of 99", x.put(7, 99), 0);
            due("value", x.value(LIVE, 7), 99);
        });
        test(2, "Gives a key a value in the live table: a row is added, or its value is changed", "only this key", () -> {
            Used x = Setups.withRows(3);
            x.put(1, 50);
            x.put(3, 60);
            dueValues("live", x, LIVE, 3, 50, 17, 60, NONE);
        });
        test(2, "at most one row of a table has a certain key", "put twice", () -> {
            Used x = new Used();
            x.put(4, 1);
            x.put(4, 2);
            due("rows", x.table(LIVE, 0), 1);
            due("sum", x.table(LIVE, 1), 2);
        });
        test(2, "at most one row of a table has a certain key", "the table is full", () -> {
            Used x = Setups.withRows(32);
            due("put at 31", x.put(31, 1), 20);
            due("rows", x.table(LIVE, 0), 32);
        });
        test(2, "Returns the previous value, NONE if there was no such row", "no row, a row, a row again", () -> {
            Used x = new Used();
            due("put", x.put(9, 8), NONE);
            due("put", x.put(9, 7), 8);
            x.erase(9);
            due("put", x.put(9, 6), NONE);
        });
        test(2, "Returns the previous value, NONE if there was no such row", "the previous value is 0", () -> {
            Used x = new Used();
            x.put(9, 0);
            due("put", x.put(9, 1), 0);
        });
        test(2, "While the phase is 3, put and erase are refused.", "they are possible in the phases 0 to 2", () -> {
            for (int phase = 0; phase < 3; phase++) {
                due("put in the phase " + phase, Setups.inPhase(phase, 1).put(0, 4), 3);
                due("put of a new row in the phase " + phase, Setups.inPhase(phase, 1).put(1, 4), NONE);
            }
        });
        test(2, "While the phase is 3, put and erase are refused.", "they are possible behind unlock", () -> {
            Used x = Setups.inPhase(3, 1);
            x.unlock();
            due("put", x.put(0, 4), 3);
        });
        test(2, "While the phase is 3, put and erase are refused.", "they are possible behind a timeout", () -> {
            Used x = Setups.inPhase(3, 1);
            x.tick(6);
            due("put", x.put(0, 4), 3);
        });
        test(2, "While the phase is 3, put and erase are refused.", "they are possible behind a swap", () -> {
            Used x = Setups.inPhase(3, 1);
            x.swap();
            due("put", x.put(0, 4), 3);
        });
    }

    private void promise2Refused() {
        test(2, "NO_SUCH if there is no such key", "too small and too large", () -> {
            for (int key : NOT_KEYS) {
                changesNothing("put at " + key, () -> Setups.withRows(2), x -> x.put(key, 5), NO_SUCH);
            }
        });
        test(2, "BAD_VALUE if value is out of range", "too small and too large", () -> {
            for (int value : NOT_VALUES) {
                changesNothing("put of " + value, () -> Setups.withRows(2), x -> x.put(0, value), BAD_VALUE);
                changesNothing("put of a new row of " + value, () -> Setups.withRows(2), x -> x.put(9, value), BAD_VALUE);
            }
        });
        test(2, "NOT_POSSIBLE if the phase is 3", "a row, and no row", () -> {
            changesNothing("put at 0", () -> Setups.inPhase(3, 2), x -> x.put(0, 5), NOT_POSSIBLE);
            changesNothing("put of the same", () -> Setups.inPhase(3, 2), x -> x.put(0, 3), NOT_POSSIBLE);
            changesNothing("put at 9", () -> Setups.inPhase(3, 2), x -> x.put(9, 5), NOT_POSSIBLE);
        });
        test(2, "NOT_POSSIBLE if the phase is 3", "the lock is as old as PATIENCE", () ->
            changesNothing("put", () -> {
                Used x = Setups.inPhase(3, 2);
                x.tick(5);
                return x;
            }, x -> x.put(0, 5), NOT_POSSIBLE));
        test(2, "NOT_POSSIBLE if the phase is 3", "a full log: the copy is not given up", () ->
            changesNothing("put", () -> Setups.lockedLog(24), x -> x.put(0, 5), NOT_POSSIBLE));
        test(2, "TOO_MANY if the change is refused because of the log", "changes nothing", () -> {
            changesNothing("put at 0", () -> strict(Setups.withLog(24)), x -> x.put(0, 5), TOO_MANY);
            changesNothing("put at 31", () -> strict(Setups.withLog(24)), x -> x.put(31, 5), TOO_MANY);
        });
        test(2, "The error codes of a method are listed in the order in which they are checked, "
            + "and the first one that applies is returned.", "put", () -> {
            due("key and value", new Used().put(-1, -1), NO_SUCH);
            due("key and value", new Used().put(32, 100), NO_SUCH);
            Used locked = strict(Setups.lockedLog(24));
            due("key, value, phase and log", locked.put(32, 100), NO_SUCH);
            due("value, phase and log", locked.put(31, 100), BAD_VALUE);
            due("phase and log", locked.put(31, 99), NOT_POSSIBLE);
            Used full = strict(Setups.withLog(24));
            due("key and log", full.put(-1, 5), NO_SUCH);
            due("value and log", full.put(0, -1), BAD_VALUE);
            due("log", full.put(0, 0), TOO_MANY);
        });
        test(2, "A method that returns an error code changes nothing.", "a refused put gives no copy up", () -> {
            changesNothing("a bad key", () -> Setups.withLog(24), x -> x.put(32, 5), NO_SUCH);
            changesNothing("a bad value", () -> Setups.withLog(24), x -> x.put(0, 100), BAD_VALUE);
        });
    }

    private static Used strict(Used x) {
        x.set(STRICT, 1);
        return x;
    }

    private void promise2Log() {
        test(2, "this counts as a change even if it has this value already", "it is logged", () -> {
            Used x = Setups.withLog(0);
            x.put(4, 5);
            due("put of the same", x.put(4, 5), 5);
            due("entries", x.copy(4), 2);
            due("its key", x.entry(1, 0), 4);
            due("its value", x.entry(1, 1), 5);
        });
        test(2, "this counts as a change even if it has this value already", "a full log, STRICT 0", () -> {
            Used x = Setups.withLog(24);
            due("put of the same", x.put(5, 5), 5);
            due("phase", x.copy(0), 0);
        });
        test(2, "this counts as a change even if it has this value already", "a full log, STRICT 1", () ->
            due("put of the same", strict(Setups.withLog(24)).put(5, 5), TOO_MANY));
        test(2, "each change of the live table by put or erase adds an entry to the end of the log: "
            + "the key and the new value", "put", () -> {
            for (int phase = 1; phase < 3; phase++) {
                Used x = Setups.inPhase(phase, 2);
                x.put(31, 98);
                x.put(0, 97);
                due("entries", x.copy(4), 2);
                due("key of the first", x.entry(0, 0), 31);
                due("value of the first", x.entry(0, 1), 98);
                due("key of the last", x.entry(1, 0), 0);
                due("value of the last", x.entry(1, 1), 97);
            }
        });
        test(2, "While a copy is under way, each change of the live table by put or erase adds an entry",
            "not without a copy", () -> {
            Used x = Setups.withRows(3);
            x.begin(0, 1);
            due("entries", x.copy(4), 0);
            x.put(0, 1);
            x.giveUp();
            x.put(0, 2);
            x.begin(0, 1);
            due("entries of the next copy", x.copy(4), 0);
        });
        test(2, "The log has room for 24 entries.", "the 24th finds room, STRICT 0", () -> {
            Used x = Setups.withLog(23);
            due("put", x.put(31, 1), NONE);
            due("phase", x.copy(0), 1);
            due("entries", x.copy(4), 24);
            due("the last entry", x.entry(23, 0), 31);
        });
        test(2, "The log has room for 24 entries.", "the 24th finds room, STRICT 1", () -> {
            Used x = strict(Setups.withLog(23));
            due("put", x.put(31, 1), NONE);
            due("entries", x.copy(4), 24);
        });
        test(2, "The log has room for 24 entries.", "there is room again behind a tick", () -> {
            Used x = strict(Setups.withLog(24));
            x.set(STEPS, 1);
            x.tick(1);
            due("put", x.put(31, 1), NONE);
            due("entries", x.copy(4), 24);
            due("the next put", x.put(30, 1), TOO_MANY);
        });
        test(2, "If a copy is under way and its log has 24 entries", "no copy: many puts are no matter", () -> {
            Used x = new Used();
            x.set(STRICT, 1);
            for (int put = 0; put < 40; put++) {
                due("put " + put, x.put(0, put), put == 0 ? NONE : put - 1);
            }
            due("copies given up", x.total(2), 0);
        });
    }

    private void promise2FullLog() {
        String giveUp = "with STRICT 0 the copy is given up, which is counted, and the change is made";
        test(2, giveUp, "in the phases 1 and 2", () -> {
            for (Used x : new Used[] {Setups.withLog(24), Setups.chasingLog(24)}) {
                due("put", x.put(3, 77), 3);
                dueCopy("given up", x, 0, NONE, NONE, NONE, NONE, NONE);
                due("copies given up", x.total(2), 1);
                due("the value", x.value(LIVE, 3), 77);
                due("the shadow table", x.table(SHADOW, 0), NONE);
                due("the log", x.entry(0, 0), NONE);
            }
        });
        test(2, giveUp, "a new row", () -> {
            Used x = Setups.withLog(24);
            due("put", x.put(31, 0), NONE);
            due("rows", x.table(LIVE, 0), 25);
            due("phase", x.copy(0), 0);
        });
        test(2, giveUp, "no old table comes of it, and no swap", () -> {
            Used x = Setups.withLog(24);
            x.put(31, 0);
            due("old table", x.table(OLD, 0), NONE);
            due("swaps", x.total(1), 0);
        });
        test(2, giveUp, "the puts behind it meet no log", () -> {
            Used x = Setups.withLog(24);
            x.put(31, 0);
            due("the next put", x.put(31, 1), 0);
            due("copies given up", x.total(2), 1);
            due("begin", x.begin(0, 1), 25);
            due("entries", x.copy(4), 0);
        });
        test(2, giveUp, "one state is recorded", () ->
            isRecorded("put", () -> Setups.withLog(24), x -> x.put(3, 77)));
        test(2, "with STRICT 1 the change is refused", "in the phases 1 and 2", () -> {
            for (Used x : new Used[] {strict(Setups.withLog(24)), strict(Setups.chasingLog(24))}) {
                due("put", x.put(3, 77), TOO_MANY);
                due("put of a new row", x.put(31, 77), TOO_MANY);
                due("the value", x.value(LIVE, 3), 3);
                due("entries", x.copy(4), 24);
                due("copies given up", x.total(2), 0);
            }
        });
        test(2, "with STRICT 1 the change is refused", "STRICT is looked at when the log is full", () -> {
            Used x = strict(Setups.withLog(24));
            due("put", x.put(3, 77), TOO_MANY);
            x.set(STRICT, 0);
            due("put", x.put(3, 77), 3);
            due("phase", x.copy(0), 0);
        });
    }

    private void promise3() {
        test(3, "Removes a row from the live table", "only this row", () -> {
            Used x = Setups.withRows(3);
            due("erase", x.erase(1), 10);
            dueValues("live", x, LIVE, 3, NONE, 17);
            due("rows", x.table(LIVE, 0), 2);
        });
        test(3, "Removes a row from the live table", "the last row: the table is empty", () -> {
            Used x = Setups.withRows(1);
            due("erase", x.erase(0), 3);
            due("rows", x.table(LIVE, 0), 0);
            due("least key", x.table(LIVE, 2), NONE);
        });
        test(3, "Removes a row from the live table", "not from the other tables", () -> {
            Used x = Setups.swapped(2);
            x.begin(0, 8);
            x.tick(1);
            x.erase(1);
            due("live", x.value(LIVE, 1), NONE);
            due("shadow", x.value(SHADOW, 1), 20);
            due("old", x.value(OLD, 1), 10);
        });
        test(3, "`key`: 0 to 31", "least and greatest", () -> {
            Used x = Setups.withRows(32);
            due("erase at 0", x.erase(0), 3);
            due("erase at 31", x.erase(31), 20);
            due("rows", x.table(LIVE, 0), 30);
        });
        test(3, "Returns the previous value, NONE if there was no such row", "a row of 0, and no row", () -> {
            Used x = new Used();
            x.put(8, 0);
            due("erase", x.erase(8), 0);
            due("erase again", x.erase(8), NONE);
            due("erase in an empty table", new Used().erase(0), NONE);
        });
        test(3, "this counts as a change only if there is such a row", "what is not there is not logged", () -> {
            Used x = Setups.withLog(1);
            due("erase of nothing", x.erase(9), NONE);
            due("entries", x.copy(4), 1);
            due("erase", x.erase(0), 0);
            due("entries", x.copy(4), 2);
            due("erase again", x.erase(0), NONE);
            due("entries", x.copy(4), 2);
        });
        test(3, "or the key and that it has no row now", "the entry", () -> {
            Used x = Setups.withLog(2);
            x.erase(1);
            due("its key", x.entry(2, 0), 1);
            due("its value", x.entry(2, 1), NONE);
        });
        test(3, "There is no row or no result; this is not an error code.", "it is recorded", () ->
            isRecorded("erase of nothing", () -> Setups.withRows(2), x -> x.erase(9)));
        test(3, "NOT_POSSIBLE if the phase is 3", "it is possible in the phases 0 to 2", () -> {
            for (int phase = 0; phase < 3; phase++) {
                due("erase in the phase " + phase, Setups.inPhase(phase, 1).erase(0), 3);
                due("erase of nothing in the phase " + phase, Setups.inPhase(phase, 1).erase(1), NONE);
            }
        });
    }

    private void promise3Refused() {
        test(3, "NO_SUCH if there is no such key", "too small and too large", () -> {
            for (int key : NOT_KEYS) {
                changesNothing("erase at " + key, () -> Setups.withRows(2), x -> x.erase(key), NO_SUCH);
            }
        });
        test(3, "NOT_POSSIBLE if the phase is 3", "a row", () ->
            changesNothing("erase", () -> Setups.inPhase(3, 2), x -> x.erase(0), NOT_POSSIBLE));
        test(3, "NOT_POSSIBLE if the phase is 3", "no row", () ->
            changesNothing("erase of nothing", () -> Setups.inPhase(3, 2), x -> x.erase(9), NOT_POSSIBLE));
        test(3, "NOT_POSSIBLE if the phase is 3", "a full log: the copy is not given up", () ->
            changesNothing("erase", () -> Setups.lockedLog(24), x -> x.erase(0), NOT_POSSIBLE));
        test(3, "TOO_MANY if the change is refused because of the log", "changes nothing", () ->
            changesNothing("erase", () -> strict(Setups.withLog(24)), x -> x.erase(5), TOO_MANY));
        test(3, "The error codes of a method are listed in the order in which they are checked", "erase", () -> {
            Used locked = strict(Setups.lockedLog(24));
            due("key, phase and log", locked.erase(32), NO_SUCH);
            due("phase and log", locked.erase(0), NOT_POSSIBLE);
            Used full = strict(Setups.withLog(24));
            due("key and log", full.erase(-1), NO_SUCH);
            due("log", full.erase(0), TOO_MANY);
        });
        test(3, "A method that returns an error code changes nothing.", "a refused erase gives no copy up", () ->
            changesNothing("a bad key", () -> Setups.withLog(24), x -> x.erase(32), NO_SUCH));
    }

    private void promise3FullLog() {
        String words = "(otherwise nothing is refused or given up because of the log)";
        test(3, words, "no row, a full log, STRICT 0", () -> {
            Used x = Setups.withLog(24);
            due("erase of nothing", x.erase(30), NONE);
            due("phase", x.copy(0), 1);
            due("entries", x.copy(4), 24);
            due("copies given up", x.total(2), 0);
        });
        test(3, words, "no row, a full log, STRICT 1", () -> {
            Used x = strict(Setups.withLog(24));
            due("erase of nothing", x.erase(30), NONE);
            due("entries", x.copy(4), 24);
        });
        test(3, "The log is treated as by put.", "a full log, STRICT 0", () -> {
            for (Used x : new Used[] {Setups.withLog(24), Setups.chasingLog(24)}) {
                due("erase", x.erase(5), 5);
                due("phase", x.copy(0), 0);
                due("copies given up", x.total(2), 1);
                due("value", x.value(LIVE, 5), NONE);
                due("shadow table", x.table(SHADOW, 0), NONE);
            }
        });
        test(3, "The log is treated as by put.", "a full log, STRICT 1", () -> {
            for (Used x : new Used[] {strict(Setups.withLog(24)), strict(Setups.chasingLog(24))}) {
                due("erase", x.erase(5), TOO_MANY);
                due("value", x.value(LIVE, 5), 5);
                due("entries", x.copy(4), 24);
            }
        });
        test(3, "The log is treated as by put.", "the 24th entry finds room", () -> {
            for (Used x : new Used[] {Setups.withLog(23), strict(Setups.withLog(23))}) {
                due("erase", x.erase(5), 5);
                due("entries", x.copy(4), 24);
                due("the last entry", x.entry(23, 0), 5);
            }
        });
    }
}
