/** Promises 18 to 21: what is told about tables, the copy and its log. */
public final class QueriesTest extends Sentences {
    private static final int[] NOT_TABLES = {-1, 3, NONE, Integer.MIN_VALUE, Integer.MAX_VALUE};

    public static void main(String[] arguments) {
        new QueriesTest().runAll();
    }

    @Override
    void tell() {
        promise18();
        promise18None();
        promise19();
        promise19Refused();
        promise20();
        promise21();
        promise21None();
    }

    /** A live, a shadow and an old table that all differ; the phase is 1. */
    private static Used threeTables() {
        Used x = Setups.swapped(4);
        x.begin(1, 2);
        x.tick(1);
        return x;
    }

    private void promise18() {
        test(18, "`table`: LIVE, SHADOW or OLD", "each of them", () -> {
            Used x = threeTables();
            dueValues("live", x, 0, 6, 20, 34, 48, NONE);
            dueValues("shadow", x, 1, 12, 40, NONE, NONE, NONE);
            dueValues("old", x, 2, 3, 10, 17, 24, NONE);
        });
        test(18, "`key`: 0 to 31", "least and greatest, in each table", () -> {
            Used x = Setups.swapped(32);
            x.begin(0, 8);
            x.tick(4);
            for (int table = 0; table < 3; table++) {
                due("value at 0", x.value(table, 0), table == OLD ? 3 : 6);
                due("value at 31", x.value(table, 31), table == OLD ? 20 : 40);
            }
        });
        test(18, "Returns the value of a row.", "0 and 99", () -> {
            Used x = new Used();
            x.put(0, 0);
            x.put(31, 99);
            due("value at 0", x.value(LIVE, 0), 0);
            due("value at 31", x.value(LIVE, 31), 99);
        });
        test(18, "NO_SUCH if there is no such key", "too small and too large", () -> {
            for (int key : NOT_KEYS) {
                for (int table = 0; table < 3; table++) {
                    int which = table;
                    changesNothing("value " + table + " " + key, QueriesTest::threeTables, x -> x.value(which, key), NO_SUCH);
                }
            }
        });
        test(18, "Returns the value; NO_SUCH if there is no such key", "no such table either", () -> {
            due("shadow table", new Used().value(SHADOW, 32), NO_SUCH);
            due("old table", new Used().value(OLD, -1), NO_SUCH);
        });
        test(18, "BAD_VALUE if table is out of range", "too small and too large", () -> {
            for (int table : NOT_TABLES) {
                changesNothing("value " + table + " 0", QueriesTest::threeTables, x -> x.value(table, 0), BAD_VALUE);
                due("value " + table + " 31", new Used().value(table, 31), BAD_VALUE);
            }
        });
        test(18, "The error codes of a method are listed in the order in which they are checked", "value", () -> {
            due("key and table", new Used().value(3, 32), NO_SUCH);
            due("key and table", new Used().value(-1, -1), NO_SUCH);
            due("key and table", new Used().value(Integer.MAX_VALUE, Integer.MIN_VALUE), NO_SUCH);
        });
        test(18, "---- queries; they change nothing.", "value", () ->
            changesNothing("value", QueriesTest::threeTables, x -> x.value(LIVE, 0), 6));
    }

    private void promise18None() {
        String words = "NONE if there is no such table now, or no such row in it";
        test(18, words, "no shadow table", () -> {
            due("new", new Used().value(SHADOW, 0), NONE);
            due("swapped", Setups.swapped(2).value(SHADOW, 0), NONE);
            Used x = Setups.inPhase(2, 2);
            x.giveUp();
            due("given up", x.value(SHADOW, 0), NONE);
            Used full = Setups.chasingLog(24);
            full.tick(1);
            full.put(0, 0);
            full.put(0, 0);
            full.put(0, 0);
            due("still there", full.value(SHADOW, 0), 0);
            full.put(0, 0);
            due("given up because of the log", full.value(SHADOW, 0), NONE);
        });
        test(18, words, "no old table", () -> {
            due("new", new Used().value(OLD, 0), NONE);
            due("before the swap", Setups.inPhase(3, 2).value(OLD, 0), NONE);
        });
        test(18, words, "no such row", () -> {
            Used x = threeTables();
            due("live", x.value(LIVE, 4), NONE);
            due("shadow", x.value(SHADOW, 2), NONE);
            due("old", x.value(OLD, 4), NONE);
        });
        test(18, words, "the row is erased", () -> {
            Used x = Setups.withRows(1);
            x.erase(0);
            due("live", x.value(LIVE, 0), NONE);
        });
    }

    private void dueTable(String what, Used x, int table, int... told) {
        for (int index = 0; index < told.length; index++) {
            due(what + ", table(" + table + ", " + index + ")", x.table(table, index), told[index]);
        }
    }

    private void promise19() {
        String words = "0 for the number of its rows, 1 for the sum of their values, 2 for the least key of a row, "
            + "3 for the greatest one";
        test(19, words, "one row at the least key", () -> {
            Used x = new Used();
            x.put(0, 7);
            dueTable("one row", x, LIVE, 1, 7, 0, 0);
        });
        test(19, words, "one row at the greatest key", () -> {
            Used x = new Used();
            x.put(31, 0);
            dueTable("one row", x, LIVE, 1, 0, 31, 31);
        });
        test(19, words, "a full table of the greatest values", () -> {
            Used x = new Used();
            for (int key = 0; key < 32; key++) {
                x.put(key, 99);
            }
            dueTable("32 rows", x, LIVE, 32, 32 * 99, 0, 31);
        });
        test(19, words, "erased rows are not counted", () -> {
            Used x = new Used();
            x.put(1, 50);
            x.put(5, 99);
            x.put(30, 0);
            x.put(31, 98);
            x.erase(31);
            x.erase(1);
            dueTable("two rows", x, LIVE, 2, 99, 5, 30);
        });
        test(19, "Returns something about a table.", "each of them", () -> {
            Used x = threeTables();
            dueTable("live", x, 0, 4, 108, 0, 3);
            dueTable("shadow", x, 1, 2, 52, 0, 1);
            dueTable("old", x, 2, 4, 54, 0, 3);
        });
        String none = "NONE if there is no such table now, and for 2 and 3 if it has no rows";
        test(19, none, "no shadow and no old table", () -> {
            dueTable("shadow", new Used(), SHADOW, NONE, NONE, NONE, NONE);
            dueTable("old", new Used(), OLD, NONE, NONE, NONE, NONE);
            dueTable("shadow behind a swap", Setups.swapped(2), SHADOW, NONE, NONE, NONE, NONE);
        });
        test(19, none, "an empty live, shadow and old table", () -> {
            dueTable("live", new Used(), LIVE, 0, 0, NONE, NONE);
            dueTable("shadow", Setups.inPhase(1, 4), SHADOW, 0, 0, NONE, NONE);
            dueTable("old", Setups.swapped(0), OLD, 0, 0, NONE, NONE);
        });
        test(19, none, "emptied again", () -> {
            Used x = Setups.withRows(1);
            x.erase(0);
            dueTable("live", x, LIVE, 0, 0, NONE, NONE);
        });
    }

    private void promise19Refused() {
        test(19, "BAD_VALUE if an argument is out of range", "table too small and too large", () -> {
            for (int table : NOT_TABLES) {
                changesNothing("table " + table + " 0", QueriesTest::threeTables, x -> x.table(table, 0), BAD_VALUE);
                due("table " + table + " 3", new Used().table(table, 3), BAD_VALUE);
            }
        });
        test(19, "BAD_VALUE if an argument is out of range", "what too small and too large", () -> {
            for (int what : new int[] {-1, 4, NONE, Integer.MIN_VALUE, Integer.MAX_VALUE}) {
                changesNothing("table 0 " + what, QueriesTest::threeTables, x -> x.table(0, what), BAD_VALUE);
                due("table 2 " + what, threeTables().table(2, what), BAD_VALUE);
            }
        });
        test(19, "`table`: LIVE, SHADOW or OLD", "each is in the range", () -> {
            for (int table = 0; table < 3; table++) {
                due("rows of " + table, Setups.swapped(2).table(table, 0), table == SHADOW ? NONE : 2);
            }
        });
        test(19, "Returns the number; BAD_VALUE if an argument is out of range", "there is no such table either", () -> {
            due("shadow table", new Used().table(SHADOW, 4), BAD_VALUE);
            due("old table", new Used().table(OLD, -1), BAD_VALUE);
        });
        test(19, "---- queries; they change nothing.", "table", () ->
            changesNothing("table", QueriesTest::threeTables, x -> x.table(SHADOW, 1), 52));
    }

    private void promise20() {
        String words = "0 for the phase, 1 for its kind, 2 for its lot, 3 for its cursor, 4 for the number of entries of the log, "
            + "5 for the age of the lock";
        test(20, words, "in each phase", () -> {
            Used x = Setups.withRows(4);
            x.begin(2, 3);
            x.put(9, 9);
            dueCopy("copying", x, 1, 2, 3, 0, 1, NONE);
            x.tick(1);
            dueCopy("copying", x, 1, 2, 3, 3, 0, NONE);
            x.tick(1);
            dueCopy("chasing", x, 2, 2, 3, 32, 0, NONE);
            x.put(9, 8);
            x.lock();
            dueCopy("locked", x, 3, 2, 3, 32, 1, 0);
            x.tick(2);
            dueCopy("locked", x, 3, 2, 3, 32, 0, 2);
        });
        test(20, "Returns something about the copy.", "a full log", () -> due("entries", Setups.withLog(24).copy(4), 24));
        test(20, "NONE for 1 to 4 if no copy is under way", "new, given up, swapped", () -> {
            dueCopy("new", new Used(), 0, NONE, NONE, NONE, NONE, NONE);
            dueCopy("swapped", Setups.swapped(3), 0, NONE, NONE, NONE, NONE, NONE);
            Used x = Setups.lockedLog(3);
            x.giveUp();
            dueCopy("given up", x, 0, NONE, NONE, NONE, NONE, NONE);
        });
        test(20, "and for 5 if the phase is not 3", "in each phase", () -> {
            for (int phase = 0; phase < 4; phase++) {
                due("age in the phase " + phase, Setups.inPhase(phase, 1).copy(5), phase == 3 ? 0 : NONE);
            }
        });
        test(20, "and for 5 if the phase is not 3", "behind a lock with an age", () -> {
            Used unlocked = Setups.inPhase(3, 1);
            unlocked.tick(2);
            unlocked.unlock();
            due("unlocked", unlocked.copy(5), NONE);
            Used released = Setups.inPhase(3, 1);
            released.tick(6);
            due("released", released.copy(5), NONE);
        });
        test(20, "BAD_VALUE if what is out of range", "too small and too large", () -> {
            for (int what : new int[] {-1, 6, NONE, Integer.MIN_VALUE, Integer.MAX_VALUE}) {
                changesNothing("copy " + what, QueriesTest::threeTables, x -> x.copy(what), BAD_VALUE);
            }
        });
        test(20, "Returns the number; BAD_VALUE if what is out of range", "no copy is under way either", () -> {
            due("copy -1", new Used().copy(-1), BAD_VALUE);
            due("copy 6", new Used().copy(6), BAD_VALUE);
        });
        test(20, "---- queries; they change nothing.", "copy", () ->
            changesNothing("copy", QueriesTest::threeTables, x -> x.copy(3), 2));
    }

    private void promise21() {
        test(21, "`entry`: 0 for the first one", "first, second, last of a full log", () -> {
            Used x = Setups.withLog(24);
            for (int entry = 0; entry < 24; entry++) {
                due("key of " + entry, x.entry(entry, 0), entry);
                due("value of " + entry, x.entry(entry, 1), entry);
            }
        });
        test(21, "`what`: 0 for its key, 1 for its value (NONE if it tells that the key has no row)",
            "put of 0, erase, put of 99", () -> {
            Used x = Setups.withRows(2);
            x.begin(0, 1);
            x.put(31, 0);
            x.erase(1);
            x.put(0, 99);
            int[][] due = {{31, 0}, {1, NONE}, {0, 99}, {NONE, NONE}};
            for (int entry = 0; entry < 4; entry++) {
                due("key of " + entry, x.entry(entry, 0), due[entry][0]);
                due("value of " + entry, x.entry(entry, 1), due[entry][1]);
            }
        });
        test(21, "Returns something about an entry of the log.", "the value is not changed by the kind", () -> {
            Used x = new Used();
            x.begin(1, 1);
            x.put(0, 60);
            due("value", x.entry(0, 1), 60);
        });
        test(21, "BAD_VALUE if entry is below 0, or what is out of range", "entry too small", () -> {
            for (int entry : new int[] {-1, NONE, Integer.MIN_VALUE}) {
                changesNothing("entry " + entry, () -> Setups.withLog(3), x -> x.entry(entry, 0), BAD_VALUE);
                due("value of " + entry, Setups.withLog(24).entry(entry, 1), BAD_VALUE);
            }
        });
        test(21, "BAD_VALUE if entry is below 0, or what is out of range", "what too small and too large", () -> {
            for (int what : new int[] {-1, 2, NONE, Integer.MIN_VALUE, Integer.MAX_VALUE}) {
                changesNothing("entry 0 " + what, () -> Setups.withLog(3), x -> x.entry(0, what), BAD_VALUE);
            }
        });
        test(21, "Returns the number; BAD_VALUE if entry is below 0, or what is out of range", "no entry, no copy either", () -> {
            due("what too small, behind the log", Setups.withLog(3).entry(3, -1), BAD_VALUE);
            due("what too large, behind the log", Setups.withLog(3).entry(3, 2), BAD_VALUE);
            due("what too small, no copy", new Used().entry(0, -1), BAD_VALUE);
            due("what too large, no copy", new Used().entry(0, 2), BAD_VALUE);
            due("entry too small, no copy", new Used().entry(-1, 0), BAD_VALUE);
        });
        test(21, "---- queries; they change nothing.", "entry", () ->
            changesNothing("entry", () -> Setups.withLog(3), x -> x.entry(2, 0), 2));
    }

    private void promise21None() {
        String words = "NONE if no copy is under way, or the log has not so many entries";
        test(21, words, "no copy", () -> {
            due("new", new Used().entry(0, 0), NONE);
            due("swapped", Setups.swapped(1).entry(0, 1), NONE);
            Used x = Setups.withLog(3);
            x.giveUp();
            due("key, given up", x.entry(0, 0), NONE);
            due("value, given up", x.entry(0, 1), NONE);
        });
        test(21, words, "empty, one entry, a full log", () -> {
            due("empty", Setups.withLog(0).entry(0, 0), NONE);
            Used one = Setups.withLog(1);
            due("one entry: key of the first", one.entry(0, 0), 0);
            due("one entry: key of the second", one.entry(1, 0), NONE);
            Used full = Setups.withLog(24);
            due("full: key of the last", full.entry(23, 0), 23);
            due("full: key behind it", full.entry(24, 0), NONE);
            due("full: value behind it", full.entry(24, 1), NONE);
            due("far behind it", full.entry(Integer.MAX_VALUE, 0), NONE);
            due("one round behind it", full.entry(47, 1), NONE);
        });
        test(21, words, "when entries are applied", () -> {
            Used x = Setups.chasingLog(4);
            x.tick(1);
            due("key of the first", x.entry(0, 0), 3);
            due("key of the second", x.entry(1, 0), NONE);
        });
    }
}
