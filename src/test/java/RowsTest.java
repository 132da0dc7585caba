/** Promises 1 to 3, 18 and 19: a new object, the rows, and what is told about tables. */
public final class RowsTest {
    private static final Checks CHECKS = new Checks("RowsTest");

    public static void main(String[] args) {
        promise1NewObject();
        promise2Put();
        promise2PutWithFullLog();
        promise3Erase();
        promise3EraseWithFullLog();
        promise18Value();
        promise19Table();
        CHECKS.end();
    }

    private static void promise1NewObject() {
        ShadowTable x = new ShadowTable();
        CHECKS.due("new: rows", x.table(ShadowTable.LIVE, 0), 0);
        CHECKS.due("new: a value", x.value(ShadowTable.LIVE, 0), ShadowTable.NONE);
        CHECKS.due("new: shadow table", x.table(ShadowTable.SHADOW, 0), ShadowTable.NONE);
        CHECKS.due("new: old table", x.table(ShadowTable.OLD, 0), ShadowTable.NONE);
        CHECKS.due("new: phase", x.copy(0), 0);
        CHECKS.due("new: fault", x.fault(), 0);
        CHECKS.due("new: states", x.states(), 0);
        CHECKS.due("new: undo", x.undo(), ShadowTable.NONE);
        CHECKS.due("new: restore", x.restore(), ShadowTable.NOT_POSSIBLE);
        int[] settings = {3, 6, 5, 0};
        for (int setting = 0; setting < 4; setting++) {
            CHECKS.due("new: setting " + setting, x.setting(setting), settings[setting]);
        }
        for (int what = 0; what < 8; what++) {
            CHECKS.due("new: total " + what, x.total(what), 0);
        }
        x.put(0, 1);
        CHECKS.due("another new object's value", new ShadowTable().value(ShadowTable.LIVE, 0), ShadowTable.NONE);
        CHECKS.due("clearText of a new object", new ShadowTable().clearText(), 0);
    }

    private static void promise2Put() {
        ShadowTable x = new ShadowTable();
        CHECKS.due("put adds", x.put(0, 0), ShadowTable.NONE);
        CHECKS.due("put changes", x.put(0, 99), 0);
        CHECKS.due("put again", x.put(0, 99), 99);
        CHECKS.due("put at the last key", x.put(31, 5), ShadowTable.NONE);
        CHECKS.due("value", x.value(0, 0), 99);
        CHECKS.due("states", x.states(), 4);
        int[] badKeys = {-1, 32, Integer.MIN_VALUE, Integer.MAX_VALUE};
        for (int key : badKeys) {
            CHECKS.unchanged("put at " + key, x, () -> x.put(key, 5), ShadowTable.NO_SUCH);
            CHECKS.unchanged("put of 100 at " + key, x, () -> x.put(key, 100), ShadowTable.NO_SUCH);
        }
        int[] badValues = {-1, 100, Integer.MIN_VALUE, Integer.MAX_VALUE};
        for (int value : badValues) {
            CHECKS.unchanged("put of " + value, x, () -> x.put(0, value), ShadowTable.BAD_VALUE);
        }

        ShadowTable y = Setups.locked(2, 24);
        CHECKS.unchanged("put under a lock", y, () -> y.put(0, 1), ShadowTable.NOT_POSSIBLE);
        CHECKS.unchanged("bad key under a lock", y, () -> y.put(32, 1), ShadowTable.NO_SUCH);
        CHECKS.unchanged("bad value under a lock", y, () -> y.put(0, 100), ShadowTable.BAD_VALUE);
        y.set(ShadowTable.STRICT, 1);
        CHECKS.unchanged("put under a lock, strict", y, () -> y.put(0, 1), ShadowTable.NOT_POSSIBLE);

        ShadowTable z = Setups.withLog(0);
        z.put(4, 5);
        z.put(4, 5);
        CHECKS.due("the same value is a change, too", z.copy(4), 2);
        CHECKS.due("its entry", z.entry(1, 1), 5);
    }

    private static void promise2PutWithFullLog() {
        ShadowTable x = Setups.withLog(23);
        CHECKS.due("the 24th entry", x.put(31, 1), ShadowTable.NONE);
        CHECKS.due("entries", x.copy(4), 24);
        x.set(ShadowTable.STRICT, 1);
        CHECKS.unchanged("put, strict", x, () -> x.put(0, 1), ShadowTable.TOO_MANY);
        CHECKS.unchanged("bad key, strict", x, () -> x.put(-1, 1), ShadowTable.NO_SUCH);
        CHECKS.unchanged("bad value, strict", x, () -> x.put(0, -1), ShadowTable.BAD_VALUE);
        x.set(ShadowTable.STRICT, 0);
        CHECKS.due("put, not strict", x.put(3, 77), 3);
        CHECKS.due("the phase", x.copy(0), 0);
        CHECKS.due("copies given up", x.total(2), 1);
        CHECKS.due("the value", x.value(0, 3), 77);
        CHECKS.due("the shadow table", x.table(ShadowTable.SHADOW, 0), ShadowTable.NONE);
        CHECKS.due("another put", x.put(3, 78), 77);
        CHECKS.due("copies given up", x.total(2), 1);

        ShadowTable y = Setups.withLog(24);
        y.set(ShadowTable.STRICT, 1);
        y.tick(1);
        CHECKS.due("put when three entries are applied", y.put(3, 1), 3);
        CHECKS.due("its place in the log", y.entry(21, 1), 1);
    }

    private static void promise3Erase() {
        ShadowTable x = Setups.withRows(3);
        CHECKS.due("erase", x.erase(1), 10);
        CHECKS.due("value", x.value(0, 1), ShadowTable.NONE);
        CHECKS.due("rows", x.table(0, 0), 2);
        CHECKS.due("erase again", x.erase(1), ShadowTable.NONE);
        CHECKS.due("it is an action all the same", x.states(), 5);
        CHECKS.due("undo of it", x.undo(), 4);
        CHECKS.due("undo of the first", x.undo(), 3);
        CHECKS.due("value", x.value(0, 1), 10);
        int[] badKeys = {-1, 32, Integer.MIN_VALUE, Integer.MAX_VALUE};
        for (int key : badKeys) {
            CHECKS.unchanged("erase at " + key, x, () -> x.erase(key), ShadowTable.NO_SUCH);
        }

        ShadowTable y = Setups.locked(2, 0);
        CHECKS.unchanged("erase under a lock", y, () -> y.erase(0), ShadowTable.NOT_POSSIBLE);
        CHECKS.unchanged("erase of nothing under a lock", y, () -> y.erase(9), ShadowTable.NOT_POSSIBLE);
        CHECKS.unchanged("bad key under a lock", y, () -> y.erase(32), ShadowTable.NO_SUCH);

        ShadowTable z = Setups.withLog(1);
        z.erase(0);
        z.erase(0);
        CHECKS.due("only what was there is logged", z.copy(4), 2);
        CHECKS.due("the entry's key", z.entry(1, 0), 0);
        CHECKS.due("the entry tells of no row", z.entry(1, 1), ShadowTable.NONE);
    }

    private static void promise3EraseWithFullLog() {
        ShadowTable x = Setups.withLog(24);
        CHECKS.due("erase of nothing", x.erase(30), ShadowTable.NONE);
        CHECKS.due("the copy goes on", x.copy(4), 24);
        x.set(ShadowTable.STRICT, 1);
        CHECKS.due("erase of nothing, strict", x.erase(30), ShadowTable.NONE);
        CHECKS.unchanged("erase, strict", x, () -> x.erase(5), ShadowTable.TOO_MANY);
        CHECKS.unchanged("bad key, strict", x, () -> x.erase(99), ShadowTable.NO_SUCH);
        x.set(ShadowTable.STRICT, 0);
        CHECKS.due("erase, not strict", x.erase(5), 5);
        CHECKS.due("the phase", x.copy(0), 0);
        CHECKS.due("copies given up", x.total(2), 1);
        CHECKS.due("the value", x.value(0, 5), ShadowTable.NONE);
    }

    private static void promise18Value() {
        ShadowTable x = Setups.withRows(2);
        CHECKS.due("no shadow table", x.value(ShadowTable.SHADOW, 0), ShadowTable.NONE);
        CHECKS.due("no old table", x.value(ShadowTable.OLD, 0), ShadowTable.NONE);
        x.begin(1, 1);
        x.tick(1);
        CHECKS.due("live", x.value(ShadowTable.LIVE, 0), 3);
        CHECKS.due("shadow", x.value(ShadowTable.SHADOW, 0), 6);
        CHECKS.due("not yet in the shadow", x.value(ShadowTable.SHADOW, 1), ShadowTable.NONE);
        x.tick(9);
        x.lock();
        x.swap();
        CHECKS.due("live behind a swap", x.value(ShadowTable.LIVE, 1), 20);
        CHECKS.due("old behind a swap", x.value(ShadowTable.OLD, 1), 10);
        CHECKS.due("no shadow behind a swap", x.value(ShadowTable.SHADOW, 1), ShadowTable.NONE);
        x.put(1, 5);
        CHECKS.due("the old table stays", x.value(ShadowTable.OLD, 1), 10);
        CHECKS.unchanged("key 32", x, () -> x.value(0, 32), ShadowTable.NO_SUCH);
        CHECKS.unchanged("key -1", x, () -> x.value(0, -1), ShadowTable.NO_SUCH);
        CHECKS.unchanged("key and table", x, () -> x.value(3, 32), ShadowTable.NO_SUCH);
        CHECKS.unchanged("table 3", x, () -> x.value(3, 0), ShadowTable.BAD_VALUE);
        CHECKS.unchanged("table -1", x, () -> x.value(-1, 31), ShadowTable.BAD_VALUE);
        CHECKS.unchanged("extremes", x, () -> x.value(Integer.MAX_VALUE, Integer.MIN_VALUE), ShadowTable.NO_SUCH);
    }

    private static void promise19Table() {
        ShadowTable x = new ShadowTable();
        int[] ofNothing = {0, 0, ShadowTable.NONE, ShadowTable.NONE};
        for (int what = 0; what < 4; what++) {
            CHECKS.due("live without rows " + what, x.table(0, what), ofNothing[what]);
            CHECKS.due("no shadow " + what, x.table(1, what), ShadowTable.NONE);
            CHECKS.due("no old " + what, x.table(2, what), ShadowTable.NONE);
        }
        x.put(0, 7);
        int[] ofOne = {1, 7, 0, 0};
        for (int what = 0; what < 4; what++) {
            CHECKS.due("live with the row 0 alone " + what, x.table(0, what), ofOne[what]);
        }
        x.erase(0);
        x.put(5, 99);
        x.put(30, 0);
        x.put(31, 98);
        x.erase(31);
        int[] ofTwo = {2, 99, 5, 30};
        for (int what = 0; what < 4; what++) {
            CHECKS.due("live with two rows " + what, x.table(0, what), ofTwo[what]);
        }
        x.begin(4, 1);
        CHECKS.due("shadow without rows: number", x.table(1, 0), 0);
        CHECKS.due("shadow without rows: sum", x.table(1, 1), 0);
        CHECKS.due("shadow without rows: least", x.table(1, 2), ShadowTable.NONE);
        CHECKS.due("shadow without rows: greatest", x.table(1, 3), ShadowTable.NONE);
        x.tick(9);
        int[] ofShadow = {2, 34, 5, 30};
        for (int what = 0; what < 4; what++) {
            CHECKS.due("shadow with two rows " + what, x.table(1, what), ofShadow[what]);
        }
        x.lock();
        x.swap();
        for (int what = 0; what < 4; what++) {
            CHECKS.due("live behind a swap " + what, x.table(0, what), ofShadow[what]);
            CHECKS.due("old behind a swap " + what, x.table(2, what), ofTwo[what]);
            CHECKS.due("shadow behind a swap " + what, x.table(1, what), ShadowTable.NONE);
        }
        x.put(0, 1);
        x.put(31, 1);
        CHECKS.due("least of all keys", x.table(0, 2), 0);
        CHECKS.due("greatest of all keys", x.table(0, 3), 31);
        int[][] bad = {{-1, 0}, {3, 0}, {0, -1}, {0, 4}, {1, 4}, {Integer.MIN_VALUE, 2}, {2, Integer.MAX_VALUE}};
        for (int[] pair : bad) {
            CHECKS.unchanged("table " + pair[0] + " " + pair[1], x, () -> x.table(pair[0], pair[1]),
                ShadowTable.BAD_VALUE);
        }
    }
}
