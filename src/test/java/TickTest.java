/** Promise 5: ticks. */
public final class TickTest extends Sentences {
    public static void main(String[] arguments) {
        new TickTest().runAll();
    }

    @Override
    void tell() {
        promise5();
        promise5Refused();
        promise5Lock();
        promise5LockOfMorePatience();
        promise5Steps();
        promise5Apply();
        promise5Throttle();
        promise5Lots();
        promise5End();
        promise5CopyKey();
        promise5Kinds();
    }

    private void promise5() {
        test(5, "`ticks`: 1 to 99", "least and greatest", () -> {
            Used x = new Used();
            due("tick", x.tick(1), 0);
            due("ticks", x.total(7), 1);
            due("tick", x.tick(99), 0);
            due("ticks", x.total(7), 100);
        });
        test(5, "Without a copy a tick does nothing.", "it is counted alone", () -> {
            Used x = Setups.swapped(2);
            x.tick(99);
            dueValues("live", x, LIVE, 6, 20, NONE);
            dueValues("old", x, OLD, 3, 10, NONE);
            due("phase", x.copy(0), 0);
            int[] totals = {1, 1, 0, 0, 0, 0, 2, 104};
            for (int what = 0; what < 8; what++) {
                due("total " + what, x.total(what), totals[what]);
            }
        });
        test(5, "Without a copy a tick does nothing. Otherwise:", "behind a copy that was given up", () -> {
            Used x = Setups.withLog(5);
            x.giveUp();
            due("tick", x.tick(5), 0);
            due("entries applied", x.total(5), 0);
            x.begin(0, 1);
            due("cursor", x.copy(3), 0);
        });
        test(5, "Makes ticks, one after the other.", "as many calls with one tick do the same", () -> {
            for (int ticks = 1; ticks < 30; ticks++) {
                Used atOnce = busy();
                Used singly = busy();
                int answer = 0;
                for (int tick = 0; tick < ticks; tick++) {
                    answer = singly.tick(1);
                }
                due("tick " + ticks, atOnce.tick(ticks), answer);
                dueText("behind " + ticks + " ticks", Picture.ofState(atOnce), Picture.ofState(singly));
            }
        });
        test(5, "Returns the phase afterwards", "each phase", () -> {
            due("no copy", new Used().tick(1), 0);
            due("still copying", Setups.inPhase(1, 32).tick(1), 1);
            due("copied", Setups.inPhase(1, 8).tick(2), 2);
            due("chasing", Setups.inPhase(2, 8).tick(1), 2);
            due("locked", Setups.inPhase(3, 8).tick(5), 3);
            due("released", Setups.inPhase(3, 8).tick(6), 2);
        });
    }

    /** A copy with rows to copy, and a log that throttles it. */
    private static Used busy() {
        Used x = Setups.withRows(20);
        x.set(LAG, 2);
        x.begin(4, 2);
        for (int key = 10; key < 25; key++) {
            x.put(key, key);
        }
        return x;
    }

    private void promise5Refused() {
        test(5, "BAD_VALUE if ticks is out of range", "too small and too large", () -> {
            for (int ticks : new int[] {0, -1, NONE, 100, Integer.MIN_VALUE, Integer.MAX_VALUE}) {
                changesNothing("tick " + ticks, () -> Setups.withRows(2), x -> x.tick(ticks), BAD_VALUE);
                changesNothing("tick " + ticks + " of a copy", () -> Setups.withLog(9), x -> x.tick(ticks), BAD_VALUE);
            }
        });
    }

    private void promise5Lock() {
        test(5, "If the phase is 3, the lock becomes one tick older (0 when it begins).", "0, 1, .., PATIENCE", () -> {
            Used x = Setups.inPhase(3, 1);
            for (int age = 0; age < 6; age++) {
                due("age", x.copy(5), age);
                due("tick", x.tick(1), age < 5 ? 3 : 2);
            }
        });
        String older = "If it is older than PATIENCE then, it is released: the phase is 2 again, this is counted as a timeout";
        test(5, older, "as old as PATIENCE, and one tick older", () -> {
            Used x = Setups.inPhase(3, 1);
            due("tick 5", x.tick(5), 3);
            due("age", x.copy(5), 5);
            due("timeouts", x.total(3), 0);
            due("tick 6", x.tick(1), 2);
            due("phase", x.copy(0), 2);
            due("age", x.copy(5), NONE);
            due("timeouts", x.total(3), 1);
        });
        test(5, older, "the least PATIENCE", () -> {
            Used x = Setups.inPhase(3, 1);
            x.set(PATIENCE, 1);
            due("tick 1", x.tick(1), 3);
            due("tick 2", x.tick(1), 2);
            due("timeouts", x.total(3), 1);
        });
        test(5, older, "the greatest PATIENCE", () -> {
            Used x = Setups.inPhase(3, 1);
            x.set(PATIENCE, 20);
            due("tick 20", x.tick(20), 3);
            due("tick 21", x.tick(1), 2);
            due("timeouts", x.total(3), 1);
        });
        test(5, older, "a lock times out once", () -> {
            Used x = Setups.inPhase(3, 1);
            due("tick", x.tick(99), 2);
            due("timeouts", x.total(3), 1);
        });
        test(5, "and the tick ends.", "no entry is applied in this tick", () -> {
            Used x = Setups.lockedLog(24);
            x.set(STEPS, 1);
            x.set(PATIENCE, 1);
            x.tick(1);
            due("entries behind the first tick", x.copy(4), 23);
            x.tick(1);
            due("entries behind the release", x.copy(4), 23);
            x.tick(1);
            due("entries behind the next tick", x.copy(4), 22);
            due("entries applied", x.total(5), 2);
        });
        test(5, "and the tick ends.", "the ticks behind it in the same call are made", () -> {
            Used x = Setups.lockedLog(24);
            x.set(STEPS, 1);
            due("tick", x.tick(9), 2);
            due("entries", x.copy(4), 16);
            due("ticks", x.total(7), 10);
        });
    }

    private void promise5LockOfMorePatience() {
        String older = "If it is older than PATIENCE then, it is released";
        test(5, older, "PATIENCE becomes less than the age", () -> {
            Used x = Setups.inPhase(3, 1);
            x.tick(5);
            x.set(PATIENCE, 1);
            due("set releases nothing", x.copy(0), 3);
            due("tick", x.tick(1), 2);
            due("timeouts", x.total(3), 1);
        });
        test(5, older, "PATIENCE becomes more", () -> {
            Used x = Setups.inPhase(3, 1);
            x.tick(5);
            x.set(PATIENCE, 6);
            due("tick", x.tick(1), 3);
            due("tick", x.tick(1), 2);
        });
        test(5, "the lock becomes one tick older (0 when it begins)", "the second lock", () -> {
            Used x = Setups.inPhase(3, 1);
            x.tick(6);
            x.lock();
            due("age", x.copy(5), 0);
            due("tick", x.tick(5), 3);
            due("tick", x.tick(1), 2);
            due("timeouts", x.total(3), 2);
        });
    }

    private void promise5Steps() {
        String words = "Up to STEPS entries of the log are applied, the first one first.";
        test(5, words, "an empty log", () -> {
            Used x = Setups.chasingLog(0);
            due("tick", x.tick(1), 2);
            due("entries applied", x.total(5), 0);
        });
        test(5, words, "less than STEPS, STEPS, and one more", () -> {
            int[] left = {0, 0, 0, 0, 1, 2, 3, 4};
            for (int entries = 1; entries < 8; entries++) {
                Used x = Setups.chasingLog(entries);
                x.tick(1);
                due("left of " + entries, x.copy(4), left[entries]);
                due("applied of " + entries, x.total(5), Math.min(entries, 3));
            }
        });
        test(5, words, "the least STEPS", () -> {
            Used x = Setups.chasingLog(24);
            x.set(STEPS, 1);
            x.tick(1);
            due("entries", x.copy(4), 23);
        });
        test(5, words, "the greatest STEPS, a full log", () -> {
            Used x = Setups.chasingLog(24);
            x.set(STEPS, 8);
            for (int left = 16; left >= 0; left -= 8) {
                x.tick(1);
                due("entries", x.copy(4), left);
            }
            due("entries applied", x.total(5), 24);
            due("rows", x.table(SHADOW, 0), 24);
        });
        test(5, words, "the rest moves up", () -> {
            Used x = Setups.chasingLog(5);
            x.tick(1);
            due("the first key", x.entry(0, 0), 3);
            due("the second key", x.entry(1, 0), 4);
            due("no third one", x.entry(2, 0), NONE);
            dueValues("shadow", x, SHADOW, 0, 1, 2, NONE);
        });
        test(5, words, "two entries of a key", () -> {
            Used x = Setups.inPhase(2, 0);
            x.put(2, 1);
            x.put(2, 9);
            x.put(3, 5);
            x.erase(3);
            x.set(STEPS, 4);
            x.tick(1);
            due("put twice", x.value(SHADOW, 2), 9);
            due("put and erased", x.value(SHADOW, 3), NONE);
        });
        test(5, words, "erased, and put again", () -> {
            Used x = Setups.inPhase(2, 1);
            x.erase(0);
            x.put(0, 8);
            x.tick(1);
            due("value", x.value(SHADOW, 0), 8);
        });
        test(5, words, "in the phases 1 and 3, too", () -> {
            Used copying = Setups.withLog(5);
            copying.tick(1);
            due("entries while copying", copying.copy(4), 2);
            Used locked = Setups.lockedLog(5);
            locked.tick(1);
            due("entries under a lock", locked.copy(4), 2);
        });
        test(5, words, "a log that stays full for long", () -> {
            Used x = Setups.chasingLog(24);
            for (int round = 0; round < 40; round++) {
                x.tick(1);
                x.put(0, round);
                x.put(1, round);
                x.put(2, round);
                due("entries in the round " + round, x.copy(4), 24);
                due("the last one's value", x.entry(23, 1), round);
                due("the first one's key", x.entry(0, 0), round < 7 ? 3 * round + 3 : 0);
            }
        });
    }

    private void promise5Apply() {
        String row = "the shadow table gets the changed row (in place of a row with this key, if it has one)";
        test(5, row, "no row there, and a row there", () -> {
            Used x = Setups.inPhase(2, 1);
            x.put(0, 50);
            x.put(31, 60);
            x.tick(1);
            due("in place of a row", x.value(SHADOW, 0), 50);
            due("a new row", x.value(SHADOW, 31), 60);
            due("rows", x.table(SHADOW, 0), 2);
        });
        test(5, row, "behind and ahead of the cursor", () -> {
            Used x = Setups.withRows(6);
            x.begin(0, 2);
            x.tick(1);
            x.put(0, 50);
            x.put(5, 60);
            x.tick(1);
            dueValues("shadow", x, SHADOW, 50, 10, 17, 24, NONE, 60);
        });
        String gone = "otherwise the row with this key is removed from the shadow table, if there is one";
        test(5, gone, "it tells of no row", () -> {
            Used x = Setups.inPhase(2, 2);
            x.erase(1);
            x.tick(1);
            dueValues("shadow", x, SHADOW, 3, NONE);
        });
        test(5, gone, "the changed row is left out by the kind", () -> {
            Used x = new Used();
            x.put(0, 10);
            x.begin(3, 1);
            x.tick(2);
            due("an even value", x.value(SHADOW, 0), 10);
            x.put(0, 11);
            x.tick(1);
            due("an odd value", x.value(SHADOW, 0), NONE);
        });
        test(5, gone, "there is none", () -> {
            Used x = Setups.inPhase(2, 2);
            x.put(9, 9);
            x.erase(9);
            x.set(STEPS, 1);
            x.tick(1);
            x.erase(1);
            x.put(1, 4);
            x.set(STEPS, 8);
            x.tick(1);
            dueValues("shadow", x, SHADOW, 3, 4, NONE);
            due("value", x.value(SHADOW, 9), NONE);
            due("entries applied", x.total(5), 4);
            Used odd = new Used();
            odd.begin(3, 1);
            odd.put(0, 99);
            odd.tick(1);
            due("a row that is left out", odd.table(SHADOW, 0), 0);
            due("it counts as applied", odd.total(5), 1);
        });
        test(5, "To apply the first entry of the log means: the entry is removed from the log", "the log is empty then", () -> {
            Used x = Setups.chasingLog(1);
            x.tick(1);
            due("entries", x.copy(4), 0);
            due("the first entry", x.entry(0, 0), NONE);
            x.tick(1);
            due("entries applied", x.total(5), 1);
        });
        test(5, "if it tells a value and the changed row is not left out by the kind", "the value is that of the entry", () -> {
            Used x = Setups.inPhase(2, 0);
            x.set(STEPS, 1);
            x.put(0, 10);
            x.put(0, 20);
            x.tick(1);
            due("value in the shadow", x.value(SHADOW, 0), 10);
        });
    }

    private void promise5Throttle() {
        String words = "if the log has more than LAG entries (behind step 2), the copy is throttled, "
            + "which is counted, and nothing more is done.";
        test(5, words, "LAG entries, and one more", () -> {
            Used exact = Setups.withLog(9);
            exact.tick(1);
            due("entries", exact.copy(4), 6);
            due("throttled", exact.total(4), 0);
            due("cursor", exact.copy(3), 1);
            Used more = Setups.withLog(10);
            due("tick", more.tick(1), 1);
            due("entries", more.copy(4), 7);
            due("throttled", more.total(4), 1);
            due("cursor", more.copy(3), 0);
        });
        test(5, words, "nothing but the entries reaches the shadow table", () -> {
            Used x = Setups.withRows(2);
            x.begin(0, 8);
            for (int key = 10; key < 20; key++) {
                x.put(key, key);
            }
            x.tick(1);
            due("rows", x.table(SHADOW, 0), 3);
            due("rows copied", x.total(6), 0);
            due("value", x.value(SHADOW, 0), NONE);
        });
        test(5, words, "the least LAG", () -> {
            Used x = Setups.withLog(4);
            x.set(LAG, 0);
            x.tick(1);
            due("one entry: throttled", x.total(4), 1);
            due("cursor", x.copy(3), 0);
            x.tick(1);
            due("no entry: throttled", x.total(4), 1);
            due("cursor", x.copy(3), 1);
        });
        test(5, words, "the greatest LAG, and a full log", () -> {
            Used x = Setups.withLog(24);
            x.set(LAG, 24);
            x.set(STEPS, 1);
            x.tick(1);
            due("throttled", x.total(4), 0);
            due("cursor", x.copy(3), 1);
        });
        test(5, words, "LAG 22 and 23, 23 entries are left", () -> {
            Used x = Setups.withLog(24);
            x.set(LAG, 22);
            x.set(STEPS, 1);
            x.tick(1);
            due("throttled with LAG 22", x.total(4), 1);
            Used y = Setups.withLog(24);
            y.set(LAG, 23);
            y.set(STEPS, 1);
            y.tick(1);
            due("throttled with LAG 23", y.total(4), 0);
        });
        test(5, words, "each throttled tick counts", () -> {
            Used x = Setups.withLog(24);
            x.tick(5);
            due("entries", x.copy(4), 9);
            due("throttled", x.total(4), 5);
            x.tick(1);
            due("entries", x.copy(4), 6);
            due("throttled", x.total(4), 5);
        });
        test(5, "If the phase is 1: if the log has more than LAG entries", "not in the phases 2 and 3", () -> {
            for (Used x : new Used[] {Setups.chasingLog(24), Setups.lockedLog(24)}) {
                x.tick(2);
                due("throttled", x.total(4), 0);
                due("entries", x.copy(4), 18);
            }
        });
    }

    private void promise5Lots() {
        String words = "Otherwise keys are copied, from the cursor on, as long as the cursor is below 32, and until lot keys "
            + "for which the live table has a row have been copied in this tick";
        test(5, words, "the least lot", () -> {
            Used x = Setups.withRows(32);
            x.begin(0, 1);
            for (int tick = 1; tick <= 32; tick++) {
                due("tick " + tick, x.tick(1), tick < 32 ? 1 : 2);
                due("cursor", x.copy(3), tick);
                due("rows", x.table(SHADOW, 0), tick);
            }
        });
        test(5, words, "the greatest lot", () -> {
            Used x = Setups.withRows(32);
            x.begin(0, 8);
            for (int tick = 1; tick <= 4; tick++) {
                due("tick " + tick, x.tick(1), tick < 4 ? 1 : 2);
                due("cursor", x.copy(3), 8 * tick);
                due("rows copied", x.total(6), 8 * tick);
            }
        });
        test(5, words, "one row less than the lot, as many, and one more", () -> {
            int[] cursors = {32, 4, 4};
            for (int rows = 3; rows < 6; rows++) {
                Used x = Setups.withRows(rows);
                x.begin(0, 4);
                x.tick(1);
                due("cursor with " + rows + " rows", x.copy(3), cursors[rows - 3]);
                due("phase with " + rows + " rows", x.copy(0), rows == 3 ? 2 : 1);
            }
        });
        String onTheWay = "(keys without such a row are copied on the way, but do not count)";
        test(5, onTheWay, "before, between and behind the rows", () -> {
            Used x = new Used();
            for (int key : new int[] {2, 3, 10, 20, 30}) {
                x.put(key, key);
            }
            x.begin(0, 2);
            due("lot 1", x.tick(1), 1);
            due("the cursor stops behind the lot", x.copy(3), 4);
            due("lot 2", x.tick(1), 1);
            due("cursor", x.copy(3), 21);
            due("lot 3", x.tick(1), 2);
            due("cursor", x.copy(3), 32);
            due("rows copied", x.total(6), 5);
        });
        test(5, onTheWay, "a row that was erased", () -> {
            Used x = Setups.withRows(3);
            x.begin(0, 2);
            x.erase(1);
            x.tick(1);
            due("cursor", x.copy(3), 3);
            dueValues("shadow", x, SHADOW, 3, NONE, 17);
        });
        test(5, onTheWay, "rows that are left out by the kind count", () -> {
            Used x = new Used();
            for (int key = 0; key < 6; key++) {
                x.put(key, key);
            }
            x.begin(3, 2);
            x.tick(1);
            due("cursor", x.copy(3), 2);
            due("rows copied", x.total(6), 1);
        });
        test(5, onTheWay, "rows that the shadow table has already count", () -> {
            Used x = Setups.withRows(4);
            x.begin(0, 2);
            x.put(0, 20);
            x.tick(1);
            due("cursor", x.copy(3), 2);
            due("rows copied", x.total(6), 1);
        });
        test(5, onTheWay, "rows that a log brought ahead of the cursor count when the cursor comes", () -> {
            Used x = Setups.withRows(2);
            x.begin(0, 2);
            x.put(9, 9);
            x.tick(1);
            due("cursor", x.copy(3), 2);
            due("a row is there", x.value(SHADOW, 9), 9);
            due("tick", x.tick(1), 2);
            due("rows copied", x.total(6), 2);
        });
    }

    private void promise5End() {
        String words = "If the cursor is 32 then, the phase is 2.";
        test(5, words, "an empty table", () -> {
            Used x = new Used();
            x.begin(0, 1);
            due("tick", x.tick(1), 2);
            due("cursor", x.copy(3), 32);
        });
        test(5, words, "the last row of the lot has the key 31", () -> {
            Used x = new Used();
            x.put(31, 5);
            x.begin(0, 1);
            due("tick", x.tick(1), 2);
            due("cursor", x.copy(3), 32);
            due("value", x.value(SHADOW, 31), 5);
        });
        test(5, words, "the last row of the lot has the key 30", () -> {
            Used x = new Used();
            x.put(30, 5);
            x.begin(0, 1);
            due("tick", x.tick(1), 1);
            due("cursor", x.copy(3), 31);
            due("tick", x.tick(1), 2);
            due("cursor", x.copy(3), 32);
        });
        test(5, words, "the log need not be empty", () -> {
            Used x = Setups.inPhase(1, 0);
            for (int put = 0; put < 9; put++) {
                x.put(31, put);
            }
            due("tick", x.tick(1), 2);
            due("entries", x.copy(4), 6);
        });
        test(5, words, "the log alone is chased then", () -> {
            Used x = Setups.inPhase(2, 3);
            x.tick(9);
            due("cursor", x.copy(3), 32);
            due("rows copied", x.total(6), 3);
            due("phase", x.copy(0), 2);
        });
    }

    private void promise5CopyKey() {
        String words = "if the live table has a row with this key, the shadow table has none, "
            + "and the changed row is not left out by the kind, the shadow table gets the changed row";
        test(5, words, "the live table has none", () -> {
            Used x = new Used();
            x.set(STEPS, 1);
            x.begin(0, 1);
            x.put(0, 5);
            x.erase(0);
            x.tick(1);
            due("the row of the log stays", x.value(SHADOW, 0), 5);
            due("cursor", x.copy(3), 32);
            due("rows copied", x.total(6), 0);
            x.tick(1);
            due("until it is removed", x.value(SHADOW, 0), NONE);
        });
        test(5, words, "the shadow table has one already", () -> {
            Used x = new Used();
            x.set(STEPS, 1);
            x.begin(1, 1);
            x.put(0, 20);
            x.put(0, 30);
            x.tick(1);
            due("cursor", x.copy(3), 1);
            due("the older row stays", x.value(SHADOW, 0), 40);
            due("rows copied", x.total(6), 0);
            x.tick(1);
            due("until the newer one comes", x.value(SHADOW, 0), 60);
        });
        test(5, words, "the changed row is left out", () -> {
            Used x = Setups.withRows(3);
            x.begin(3, 8);
            x.tick(1);
            dueValues("shadow", x, SHADOW, NONE, 10, NONE);
            due("rows copied", x.total(6), 1);
        });
        test(5, words, "the row changed before its turn", () -> {
            Used x = Setups.withRows(3);
            x.set(STEPS, 1);
            x.begin(0, 1);
            x.put(31, 0);
            x.put(1, 50);
            x.tick(2);
            dueValues("shadow", x, SHADOW, 3, 50, NONE);
            due("rows copied", x.total(6), 1);
        });
        test(5, "Then the cursor becomes the key plus 1.", "with a row, without one, with one left out", () -> {
            Used x = Setups.withRows(1);
            x.put(5, 1);
            x.begin(3, 1);
            x.tick(1);
            due("cursor", x.copy(3), 1);
            x.tick(1);
            due("cursor", x.copy(3), 6);
            x.tick(1);
            due("cursor", x.copy(3), 32);
        });
    }

    /** Each kind by a copied row, and by an entry of the log. */
    private void dueRow(int kind, int key, int value, int becomes) {
        Used copied = new Used();
        copied.put(key, value);
        copied.begin(kind, 1);
        copied.tick(2);
        due("copied, kind " + kind + ", " + key + " " + value, copied.value(SHADOW, key), becomes);
        Used logged = new Used();
        logged.begin(kind, 1);
        logged.put(key, value);
        logged.tick(2);
        due("logged, kind " + kind + ", " + key + " " + value, logged.value(SHADOW, key), becomes);
    }

    private void promise5Kinds() {
        test(5, "With the kind 0 the row stays as it is.", "least and greatest value", () -> {
            dueRow(0, 0, 0, 0);
            dueRow(0, 31, 99, 99);
        });
        test(5, "With the kind 1 its value v becomes 2 * v modulo 100.", "below, at and above 100", () -> {
            dueRow(1, 0, 0, 0);
            dueRow(1, 0, 49, 98);
            dueRow(1, 0, 50, 0);
            dueRow(1, 0, 51, 2);
            dueRow(1, 31, 99, 98);
        });
        test(5, "With the kind 2 the two decimal digits of its value are exchanged (7 counts as 07, and becomes 70).",
            "one digit, a zero behind, two digits", () -> {
            dueRow(2, 0, 7, 70);
            dueRow(2, 0, 70, 7);
            dueRow(2, 0, 0, 0);
            dueRow(2, 0, 9, 90);
            dueRow(2, 0, 10, 1);
            dueRow(2, 0, 12, 21);
            dueRow(2, 31, 99, 99);
        });
        test(5, "With the kind 3 rows with odd values are left out, and others stay as they are.", "odd and even", () -> {
            dueRow(3, 0, 0, 0);
            dueRow(3, 0, 1, NONE);
            dueRow(3, 1, 2, 2);
            dueRow(3, 31, 98, 98);
            dueRow(3, 30, 99, NONE);
        });
        test(5, "With the kind 4 the value becomes the sum of the value and the key, modulo 100.",
            "below, at and above 100", () -> {
            dueRow(4, 0, 0, 0);
            dueRow(4, 0, 99, 99);
            dueRow(4, 1, 99, 0);
            dueRow(4, 31, 68, 99);
            dueRow(4, 31, 69, 0);
            dueRow(4, 31, 99, 30);
        });
        test(5, "A copy has a kind, 0 to 4, which tells what a row of the live table becomes in the shadow table.",
            "the live table stays", () -> {
            for (int kind = 0; kind < 5; kind++) {
                Used x = Setups.withRows(4);
                x.begin(kind, 8);
                x.tick(3);
                dueValues("live", x, LIVE, 3, 10, 17, 24, NONE);
            }
        });
    }
}
