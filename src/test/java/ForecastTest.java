/** Promises 22 to 24 and 28 to 30: what a row would become, differences, and what would be. */
public final class ForecastTest {
    private static final Checks CHECKS = new Checks("ForecastTest");

    public static void main(String[] args) {
        promise22Changed();
        promise23Differences();
        promise24FirstDifference();
        promise28ReadyIn();
        promise29LeastLot();
        promise30Progress();
        CHECKS.end();
    }

    private static void promise22Changed() {
        ShadowTable x = new ShadowTable();
        for (int key = 0; key < 32; key++) {
            for (int value = 0; value < 100; value++) {
                int exchanged = Integer.parseInt(new StringBuilder(String.format("%02d", value)).reverse().toString());
                int[] due = {value, (value + value) % 100, exchanged,
                    (value & 1) == 1 ? ShadowTable.NONE : value, (key + value) % 100};
                for (int kind = 0; kind < 5; kind++) {
                    CHECKS.due("changed " + kind + " " + key + " " + value, x.changed(kind, key, value), due[kind]);
                }
            }
        }
        int[][] bad = {{-1, 0, 0}, {5, 0, 0}, {0, 0, -1}, {0, 0, 100}, {4, 31, Integer.MAX_VALUE},
            {Integer.MIN_VALUE, 0, 0}, {0, 0, ShadowTable.NONE}};
        for (int[] each : bad) {
            CHECKS.unchanged("changed " + each[0] + " " + each[1] + " " + each[2], x,
                () -> x.changed(each[0], each[1], each[2]), ShadowTable.BAD_VALUE);
        }
        int[] badKeys = {-1, 32, Integer.MIN_VALUE, Integer.MAX_VALUE};
        for (int key : badKeys) {
            CHECKS.unchanged("changed at " + key, x, () -> x.changed(0, key, 0), ShadowTable.NO_SUCH);
            CHECKS.unchanged("changed wrongly at " + key, x, () -> x.changed(5, key, 100), ShadowTable.NO_SUCH);
        }
    }

    private static void promise23Differences() {
        ShadowTable x = Setups.withRows(4);
        CHECKS.due("no copy", x.differences(), ShadowTable.NONE);
        x.begin(3, 8);
        // The values are 3, 10, 17 and 24: two of them are left out.
        CHECKS.unchanged("at the beginning", x, x::differences, 2);
        x.tick(1);
        CHECKS.due("all copied", x.differences(), 0);
        x.put(0, 4);
        CHECKS.due("a row that is no more left out", x.differences(), 1);
        x.put(1, 11);
        CHECKS.due("a row that is left out now", x.differences(), 2);
        x.put(3, 26);
        CHECKS.due("another value", x.differences(), 3);
        x.put(2, 19);
        CHECKS.due("left out as before", x.differences(), 3);
        x.erase(3);
        CHECKS.due("a row that is gone", x.differences(), 3);
        x.erase(2);
        CHECKS.due("a row that was left out is gone", x.differences(), 3);
        x.lock();
        CHECKS.due("under a lock", x.differences(), 3);
        x.tick(2);
        CHECKS.due("the log is applied", x.differences(), 0);
        x.swap();
        CHECKS.due("behind the swap", x.differences(), ShadowTable.NONE);

        ShadowTable all = Setups.withRows(32);
        all.begin(0, 8);
        CHECKS.due("all keys", all.differences(), 32);
        ShadowTable twice = Setups.withRows(2);
        twice.begin(1, 8);
        twice.put(1, 60);
        twice.tick(1);
        twice.put(1, 10);
        CHECKS.due("the same value again, not yet applied", twice.differences(), 0);
    }

    private static void promise24FirstDifference() {
        ShadowTable x = Setups.withRows(32);
        CHECKS.due("no copy", x.firstDifference(), ShadowTable.NONE);
        x.begin(0, 8);
        int[] due = {0, 8, 16, 24, ShadowTable.NONE};
        for (int tick = 0; tick < 5; tick++) {
            CHECKS.unchanged("firstDifference behind tick " + tick, x, x::firstDifference, due[tick]);
            x.tick(1);
        }
        x.put(31, 0);
        CHECKS.due("the last key", x.firstDifference(), 31);
        x.erase(5);
        CHECKS.due("the least key", x.firstDifference(), 5);
        x.giveUp();
        CHECKS.due("given up", x.firstDifference(), ShadowTable.NONE);
    }

    /** What readyIn tells must come true, tick by tick. */
    private static void comesTrue(String what, ShadowTable x, int want) {
        CHECKS.unchanged(what, x, x::readyIn, want);
        for (int left = want; left > 0; left--) {
            CHECKS.due(what + ": still to come", x.readyIn(), left);
            CHECKS.due(what + ": not ready", x.copy(0) == 2 && x.copy(4) == 0 ? 1 : 0, 0);
            x.tick(1);
        }
        CHECKS.due(what + ": the phase", x.copy(0), 2);
        CHECKS.due(what + ": the log", x.copy(4), 0);
        CHECKS.due(what + ": ready", x.readyIn(), 0);
    }

    private static void promise28ReadyIn() {
        ShadowTable x = Setups.withRows(6);
        CHECKS.unchanged("no copy", x, x::readyIn, ShadowTable.NOT_POSSIBLE);
        x.begin(0, 2);
        comesTrue("three lots and a tick for the rest", x, 4);
        x.lock();
        CHECKS.unchanged("locked", x, x::readyIn, ShadowTable.NOT_POSSIBLE);
        x.unlock();
        CHECKS.due("unlocked", x.readyIn(), 0);

        comesTrue("a log of 24", Setups.chasing(1, 24), 8);
        comesTrue("a log of 1", Setups.chasing(1, 1), 1);
        ShadowTable slow = Setups.withRows(32);
        slow.set(ShadowTable.STEPS, 1);
        slow.set(ShadowTable.LAG, 0);
        slow.begin(0, 1);
        for (int key = 0; key < 24; key++) {
            slow.put(key, key);
        }
        comesTrue("the slowest copy", slow, 55);
        ShadowTable empty = new ShadowTable();
        empty.begin(0, 1);
        comesTrue("an empty table", empty, 1);
        ShadowTable last = Setups.withRows(32);
        last.begin(0, 8);
        comesTrue("lots that end with the keys", last, 4);
    }

    private static void promise29LeastLot() {
        ShadowTable x = Setups.withRows(32);
        int[] bad = {0, -1, 100, Integer.MIN_VALUE, Integer.MAX_VALUE};
        for (int ticks : bad) {
            CHECKS.unchanged("leastLot " + ticks, x, () -> x.leastLot(ticks), ShadowTable.BAD_VALUE);
        }
        CHECKS.unchanged("no copy", x, () -> x.leastLot(1), ShadowTable.NOT_POSSIBLE);
        x.begin(0, 3);
        int[] ticks = {1, 3, 4, 5, 6, 7, 8, 10, 11, 15, 16, 31, 32, 99};
        int[] lots = {-5, -5, 8, 7, 6, 5, 4, 4, 3, 3, 2, 2, 1, 1};
        for (int index = 0; index < ticks.length; index++) {
            int within = ticks[index];
            CHECKS.unchanged("leastLot " + within, x, () -> x.leastLot(within), lots[index]);
        }
        x.tick(8);
        // The cursor is 24: eight rows are left.
        CHECKS.due("on the way", x.leastLot(1), 8);
        CHECKS.due("on the way", x.leastLot(2), 4);
        CHECKS.due("on the way", x.leastLot(8), 1);

        ShadowTable y = Setups.chasing(1, 7);
        CHECKS.due("a log of 7, two ticks", y.leastLot(2), ShadowTable.NONE);
        CHECKS.due("a log of 7, three ticks", y.leastLot(3), 1);
        y.tick(3);
        CHECKS.due("ready already", y.leastLot(1), 1);
        y.lock();
        CHECKS.unchanged("locked", y, () -> y.leastLot(1), ShadowTable.NOT_POSSIBLE);
        CHECKS.unchanged("locked, wrongly asked", y, () -> y.leastLot(0), ShadowTable.BAD_VALUE);
        y.unlock();
        CHECKS.due("unlocked", y.leastLot(1), 1);
    }

    private static void promise30Progress() {
        ShadowTable x = Setups.withRows(32);
        CHECKS.dueDouble("no copy", x.progress(), 0.0);
        x.begin(0, 1);
        for (int cursor = 0; cursor <= 32; cursor++) {
            CHECKS.dueDouble("progress", x.progress(), cursor / 32.0);
            x.tick(1);
        }
        CHECKS.dueDouble("chasing", x.progress(), 1.0);
        x.lock();
        CHECKS.dueDouble("locked", x.progress(), 1.0);
        x.swap();
        CHECKS.dueDouble("swapped", x.progress(), 0.0);
        x.begin(0, 4);
        x.tick(2);
        CHECKS.dueDouble("another copy", x.progress(), 0.25);
        x.giveUp();
        CHECKS.dueDouble("given up", x.progress(), 0.0);
    }
}
