/** Promises 4 to 9, 20 and 21: a copy from its beginning to its end, and what is told about it. */
public final class CopyTest {
    private static final Checks CHECKS = new Checks("CopyTest");

    public static void main(String[] args) {
        promise4Begin();
        promise5Tick();
        promise5TickCopiesLots();
        promise5TickAppliesTheLog();
        promise5TickThrottles();
        promise5TickReleasesTheLock();
        promise6Lock();
        promise7Unlock();
        promise8Swap();
        promise9GiveUp();
        promise20Copy();
        promise21Entry();
        CHECKS.end();
    }

    private static void dueValues(String what, ShadowTable x, int table, int... values) {
        for (int key = 0; key < values.length; key++) {
            CHECKS.due(what + ", key " + key, x.value(table, key), values[key]);
        }
    }

    private static void dueCopy(String what, ShadowTable x, int... told) {
        for (int index = 0; index < told.length; index++) {
            CHECKS.due(what + ", copy(" + index + ")", x.copy(index), told[index]);
        }
    }

    private static void promise4Begin() {
        ShadowTable x = Setups.withRows(4);
        int[][] bad = {{-1, 1}, {5, 1}, {0, 0}, {0, 9}, {Integer.MIN_VALUE, 1}, {4, Integer.MAX_VALUE}};
        for (int[] pair : bad) {
            CHECKS.unchanged("begin " + pair[0] + " " + pair[1], x, () -> x.begin(pair[0], pair[1]),
                ShadowTable.BAD_VALUE);
        }
        CHECKS.due("begin", x.begin(4, 8), 4);
        dueCopy("a new copy", x, 1, 4, 8, 0, 0, ShadowTable.NONE);
        CHECKS.due("its shadow table", x.table(ShadowTable.SHADOW, 0), 0);
        CHECKS.due("copies begun", x.total(0), 1);
        CHECKS.unchanged("begin again", x, () -> x.begin(0, 1), ShadowTable.NOT_POSSIBLE);
        CHECKS.unchanged("begin again, wrongly", x, () -> x.begin(0, 9), ShadowTable.BAD_VALUE);
        x.tick(1);
        x.put(0, 1);
        x.giveUp();
        CHECKS.due("begin behind giveUp", x.begin(0, 1), 4);
        dueCopy("a copy behind a copy", x, 1, 0, 1, 0, 0, ShadowTable.NONE);
        CHECKS.due("its shadow table is new", x.table(ShadowTable.SHADOW, 0), 0);
        CHECKS.due("copies begun", x.total(0), 2);
        CHECKS.due("begin without rows", new ShadowTable().begin(0, 1), 0);

        ShadowTable chasing = Setups.chasing(1, 0);
        CHECKS.unchanged("begin while chasing", chasing, () -> chasing.begin(0, 1), ShadowTable.NOT_POSSIBLE);
        chasing.lock();
        CHECKS.unchanged("begin while locked", chasing, () -> chasing.begin(0, 1), ShadowTable.NOT_POSSIBLE);
    }

    private static void promise5Tick() {
        ShadowTable x = new ShadowTable();
        int[] bad = {0, -1, 100, Integer.MIN_VALUE, Integer.MAX_VALUE};
        for (int ticks : bad) {
            CHECKS.unchanged("tick " + ticks, x, () -> x.tick(ticks), ShadowTable.BAD_VALUE);
        }
        CHECKS.due("tick without a copy", x.tick(99), 0);
        CHECKS.due("ticks without a copy count", x.total(7), 99);
        CHECKS.due("it is an action", x.states(), 1);
        x.begin(0, 1);
        CHECKS.due("tick of an empty table", x.tick(1), 2);
        dueCopy("an empty table's copy", x, 2, 0, 1, 32, 0);
        CHECKS.due("ticks", x.total(7), 100);
    }

    private static void promise5TickCopiesLots() {
        ShadowTable x = new ShadowTable();
        int[] keys = {2, 3, 10, 20, 31};
        for (int key : keys) {
            x.put(key, key);
        }
        x.begin(0, 2);
        CHECKS.due("lot 1", x.tick(1), 1);
        CHECKS.due("the cursor stops behind the lot", x.copy(3), 4);
        CHECKS.due("rows", x.table(1, 0), 2);
        CHECKS.due("lot 2", x.tick(1), 1);
        CHECKS.due("cursor", x.copy(3), 21);
        CHECKS.due("lot 3", x.tick(1), 2);
        CHECKS.due("cursor", x.copy(3), 32);
        CHECKS.due("rows copied", x.total(6), 5);

        ShadowTable exact = Setups.withRows(32);
        exact.begin(0, 8);
        CHECKS.due("three full lots", exact.tick(3), 1);
        CHECKS.due("the fourth ends at 32", exact.tick(1), 2);

        ShadowTable odd = new ShadowTable();
        for (int key = 0; key < 6; key++) {
            odd.put(key, key);
        }
        odd.begin(3, 2);
        odd.tick(1);
        CHECKS.due("rows that are left out count for the lot", odd.copy(3), 2);
        dueValues("odd rows are left out", odd, 1, 0, ShadowTable.NONE, ShadowTable.NONE);
        CHECKS.due("they are not counted as copied", odd.total(6), 1);
        odd.tick(9);
        CHECKS.due("rows of the shadow", odd.table(1, 0), 3);
        CHECKS.due("rows copied", odd.total(6), 3);

        ShadowTable here = Setups.withRows(4);
        here.begin(1, 2);
        here.put(0, 20);
        here.tick(1);
        dueValues("a row from the log is not copied again", here, 1, 40, 20, ShadowTable.NONE);
        CHECKS.due("but counts for the lot", here.copy(3), 2);
        CHECKS.due("only one was copied", here.total(6), 1);

        int[][] due = {{3, 10, 17}, {6, 20, 34}, {30, 1, 71}, {ShadowTable.NONE, 10, ShadowTable.NONE}, {3, 11, 19}};
        for (int kind = 0; kind < 5; kind++) {
            ShadowTable each = Setups.withRows(3);
            each.begin(kind, 3);
            each.tick(1);
            dueValues("kind " + kind, each, 1, due[kind]);
        }
    }

    private static void promise5TickAppliesTheLog() {
        ShadowTable x = Setups.withLog(5);
        CHECKS.due("tick", x.tick(1), 1);
        CHECKS.due("STEPS entries are applied", x.copy(4), 2);
        CHECKS.due("the first ones", x.entry(0, 0), 3);
        CHECKS.due("entries applied", x.total(5), 3);
        x.tick(1);
        CHECKS.due("the rest", x.copy(4), 0);
        CHECKS.due("entries applied", x.total(5), 5);
        x.tick(1);
        CHECKS.due("no more entries", x.total(5), 5);

        ShadowTable y = Setups.chasing(3, 0);
        y.set(ShadowTable.STEPS, 8);
        y.put(0, 50);
        y.erase(1);
        y.put(9, 9);
        y.erase(9);
        y.put(2, 1);
        y.put(2, 2);
        y.tick(1);
        dueValues("the log is applied in its order", y, 1, 50, ShadowTable.NONE, 2);
        CHECKS.due("a row that came and went", y.value(1, 9), ShadowTable.NONE);
        CHECKS.due("entries applied", y.total(5), 6);
        CHECKS.due("rows copied are not rows applied", y.total(6), 3);

        ShadowTable odd = Setups.withRows(0);
        odd.put(0, 10);
        odd.begin(3, 1);
        odd.tick(2);
        CHECKS.due("an even row", odd.value(1, 0), 10);
        odd.put(0, 11);
        odd.tick(1);
        CHECKS.due("becomes odd, and is removed", odd.value(1, 0), ShadowTable.NONE);

        ShadowTable under = Setups.locked(4, 4);
        CHECKS.due("tick under a lock", under.tick(1), 3);
        CHECKS.due("applies entries, too", under.copy(4), 1);
        dueValues("under a lock", under, 1, 50, 51, 52, 24);

        // An erased row whose entry comes behind the cursor is not copied.
        ShadowTable gone = Setups.withRows(3);
        gone.begin(0, 3);
        gone.erase(1);
        gone.tick(1);
        dueValues("a row that is gone", gone, 1, 3, ShadowTable.NONE, 17);
        CHECKS.due("it does not count for the lot", gone.copy(3), 32);
    }

    private static void promise5TickThrottles() {
        ShadowTable x = Setups.withLog(10);
        CHECKS.due("tick: 7 entries are left, LAG is 6", x.tick(1), 1);
        CHECKS.due("throttled", x.total(4), 1);
        CHECKS.due("cursor", x.copy(3), 0);
        CHECKS.due("tick: 4 entries are left", x.tick(1), 1);
        CHECKS.due("not throttled", x.total(4), 1);
        CHECKS.due("cursor", x.copy(3), 1);

        ShadowTable y = Setups.withLog(9);
        y.tick(1);
        CHECKS.due("6 entries are left: not more than LAG", y.total(4), 0);
        CHECKS.due("cursor", y.copy(3), 1);

        ShadowTable zero = Setups.withLog(4);
        zero.set(ShadowTable.LAG, 0);
        zero.tick(1);
        CHECKS.due("LAG 0, one entry is left", zero.total(4), 1);
        zero.tick(1);
        CHECKS.due("LAG 0, none is left", zero.total(4), 1);

        ShadowTable chasing = Setups.chasing(1, 24);
        chasing.tick(2);
        CHECKS.due("a chasing copy is not throttled", chasing.total(4), 0);
        CHECKS.due("its entries", chasing.copy(4), 18);
    }

    private static void promise5TickReleasesTheLock() {
        ShadowTable x = Setups.locked(1, 24);
        x.set(ShadowTable.STEPS, 1);
        x.set(ShadowTable.PATIENCE, 2);
        CHECKS.due("age 1", x.tick(1), 3);
        CHECKS.due("age", x.copy(5), 1);
        CHECKS.due("age 2", x.tick(1), 3);
        CHECKS.due("entries", x.copy(4), 22);
        CHECKS.due("older than PATIENCE", x.tick(1), 2);
        CHECKS.due("the tick ends: no entry is applied", x.copy(4), 22);
        CHECKS.due("timeouts", x.total(3), 1);
        CHECKS.due("no age", x.copy(5), ShadowTable.NONE);
        CHECKS.due("the next tick applies", x.tick(1), 2);
        CHECKS.due("entries", x.copy(4), 21);
        CHECKS.due("lock again", x.lock(), 21);
        CHECKS.due("its age", x.copy(5), 0);
        CHECKS.due("a long tick", x.tick(4), 2);
        CHECKS.due("entries", x.copy(4), 18);
        CHECKS.due("timeouts", x.total(3), 2);

        ShadowTable y = Setups.locked(1, 0);
        y.tick(5);
        CHECKS.due("as old as PATIENCE", y.copy(5), 5);
        y.set(ShadowTable.PATIENCE, 1);
        CHECKS.due("set does not release", y.copy(0), 3);
        CHECKS.due("the next tick does", y.tick(1), 2);
    }

    private static void promise6Lock() {
        ShadowTable x = Setups.withRows(2);
        CHECKS.unchanged("lock without a copy", x, x::lock, ShadowTable.NOT_POSSIBLE);
        x.begin(0, 1);
        CHECKS.unchanged("lock while copying", x, x::lock, ShadowTable.NOT_POSSIBLE);
        x.tick(9);
        x.put(0, 1);
        x.put(0, 2);
        CHECKS.due("lock", x.lock(), 2);
        dueCopy("locked", x, 3, 0, 1, 32, 2, 0);
        CHECKS.unchanged("lock again", x, x::lock, ShadowTable.NOT_POSSIBLE);
    }

    private static void promise7Unlock() {
        ShadowTable x = Setups.withRows(2);
        CHECKS.unchanged("unlock without a copy", x, x::unlock, ShadowTable.NOT_POSSIBLE);
        x.begin(0, 1);
        CHECKS.unchanged("unlock while copying", x, x::unlock, ShadowTable.NOT_POSSIBLE);
        x.tick(9);
        CHECKS.unchanged("unlock while chasing", x, x::unlock, ShadowTable.NOT_POSSIBLE);
        x.lock();
        CHECKS.due("unlock at once", x.unlock(), 0);
        CHECKS.due("phase", x.copy(0), 2);
        x.lock();
        x.tick(3);
        CHECKS.due("unlock", x.unlock(), 3);
        CHECKS.due("it is no timeout", x.total(3), 0);
        CHECKS.due("put is possible again", x.put(0, 9), 3);
        x.lock();
        CHECKS.due("the next lock begins anew", x.copy(5), 0);
    }

    private static void promise8Swap() {
        ShadowTable x = Setups.withRows(3);
        CHECKS.unchanged("swap without a copy", x, x::swap, ShadowTable.NOT_POSSIBLE);
        x.begin(3, 8);
        CHECKS.unchanged("swap while copying", x, x::swap, ShadowTable.NOT_POSSIBLE);
        x.tick(1);
        CHECKS.unchanged("swap while chasing", x, x::swap, ShadowTable.NOT_POSSIBLE);
        x.put(2, 18);
        x.lock();
        CHECKS.unchanged("swap with a log", x, x::swap, ShadowTable.NOT_POSSIBLE);
        x.tick(1);
        CHECKS.due("swap", x.swap(), 2);
        dueValues("live", x, 0, ShadowTable.NONE, 10, 18);
        dueValues("old", x, 2, 3, 10, 18);
        dueCopy("no copy", x, 0, ShadowTable.NONE, ShadowTable.NONE, ShadowTable.NONE, ShadowTable.NONE);
        CHECKS.due("swaps", x.total(1), 1);
        CHECKS.due("it is not given up", x.total(2), 0);
        CHECKS.unchanged("swap again", x, x::swap, ShadowTable.NOT_POSSIBLE);
        x.erase(2);
        x.begin(1, 8);
        x.tick(1);
        x.lock();
        CHECKS.due("the second swap", x.swap(), 1);
        dueValues("live", x, 0, ShadowTable.NONE, 20, ShadowTable.NONE);
        dueValues("the old table is replaced", x, 2, ShadowTable.NONE, 10, ShadowTable.NONE);
        CHECKS.due("swaps", x.total(1), 2);
        CHECKS.due("the tables are two", x.put(1, 7), 20);
        CHECKS.due("old", x.value(2, 1), 10);

        ShadowTable empty = Setups.locked(0, 0);
        CHECKS.due("swap without rows", empty.swap(), 0);
        CHECKS.due("the old table is there", empty.table(2, 0), 0);
    }

    private static void promise9GiveUp() {
        ShadowTable x = Setups.withRows(5);
        CHECKS.unchanged("giveUp without a copy", x, x::giveUp, ShadowTable.NOT_POSSIBLE);
        x.begin(0, 2);
        CHECKS.due("giveUp at once", x.giveUp(), 0);
        x.begin(0, 2);
        x.tick(2);
        x.put(0, 1);
        CHECKS.due("giveUp", x.giveUp(), 4);
        CHECKS.due("phase", x.copy(0), 0);
        CHECKS.due("the shadow table is gone", x.table(1, 0), ShadowTable.NONE);
        CHECKS.due("the log is gone", x.entry(0, 0), ShadowTable.NONE);
        CHECKS.due("no old table", x.table(2, 0), ShadowTable.NONE);
        CHECKS.due("the live table stays", x.value(0, 0), 1);
        CHECKS.due("copies given up", x.total(2), 2);
        CHECKS.unchanged("giveUp again", x, x::giveUp, ShadowTable.NOT_POSSIBLE);
        CHECKS.due("giveUp while chasing", Setups.chasing(3, 1).giveUp(), 3);
        CHECKS.due("giveUp under a lock", Setups.locked(3, 1).giveUp(), 3);
    }

    private static void promise20Copy() {
        ShadowTable x = Setups.withRows(4);
        int none = ShadowTable.NONE;
        dueCopy("without a copy", x, 0, none, none, none, none, none);
        x.begin(2, 3);
        x.put(9, 9);
        dueCopy("copying", x, 1, 2, 3, 0, 1, none);
        x.tick(1);
        dueCopy("copying", x, 1, 2, 3, 3, 0, none);
        x.tick(1);
        dueCopy("chasing", x, 2, 2, 3, 32, 0, none);
        x.put(9, 8);
        x.lock();
        x.tick(2);
        dueCopy("locked", x, 3, 2, 3, 32, 0, 2);
        x.unlock();
        dueCopy("unlocked", x, 2, 2, 3, 32, 0, none);
        x.giveUp();
        dueCopy("given up", x, 0, none, none, none, none, none);
        int[] bad = {-1, 6, Integer.MIN_VALUE, Integer.MAX_VALUE};
        for (int what : bad) {
            CHECKS.unchanged("copy " + what, x, () -> x.copy(what), ShadowTable.BAD_VALUE);
        }
    }

    private static void promise21Entry() {
        ShadowTable x = Setups.withRows(2);
        CHECKS.due("no copy", x.entry(0, 0), ShadowTable.NONE);
        x.begin(0, 1);
        CHECKS.due("an empty log", x.entry(0, 0), ShadowTable.NONE);
        x.put(31, 0);
        x.erase(1);
        x.put(7, 99);
        int[][] due = {{31, 0}, {1, ShadowTable.NONE}, {7, 99}, {ShadowTable.NONE, ShadowTable.NONE}};
        for (int entry = 0; entry < 4; entry++) {
            CHECKS.due("entry " + entry + ": key", x.entry(entry, 0), due[entry][0]);
            CHECKS.due("entry " + entry + ": value", x.entry(entry, 1), due[entry][1]);
        }
        CHECKS.due("far behind the log", x.entry(Integer.MAX_VALUE, 0), ShadowTable.NONE);
        int[][] bad = {{-1, 0}, {0, -1}, {0, 2}, {9, 2}, {Integer.MIN_VALUE, 1}, {0, Integer.MAX_VALUE}};
        for (int[] pair : bad) {
            CHECKS.unchanged("entry " + pair[0] + " " + pair[1], x, () -> x.entry(pair[0], pair[1]),
                ShadowTable.BAD_VALUE);
        }
        x.giveUp();
        CHECKS.due("no copy", x.entry(0, 0), ShadowTable.NONE);
        CHECKS.due("no copy, wrongly asked", x.entry(-1, 0), ShadowTable.BAD_VALUE);

        // More entries than the log has room for, one after the other: the log goes round.
        ShadowTable y = Setups.chasing(1, 24);
        for (int round = 0; round < 30; round++) {
            y.tick(1);
            y.put(0, round);
            y.put(1, round);
            y.put(2, round);
            CHECKS.due("round " + round + ": entries", y.copy(4), 24);
            CHECKS.due("round " + round + ": the last one", y.entry(23, 0) * 100 + y.entry(23, 1), 200 + round);
        }
        CHECKS.due("the first one is of round 22", y.entry(0, 1), 22);
    }
}
