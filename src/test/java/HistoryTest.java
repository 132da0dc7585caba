/** Promises 15 to 17 and 27: history and snapshot. */
public final class HistoryTest extends Sentences {
    public static void main(String[] arguments) {
        new HistoryTest().runAll();
    }

    @Override
    void tell() {
        promise15();
        promise15History();
        promise15Recorded();
        promise15RecordedCopy();
        promise15State();
        promise15NotState();
        promise16();
        promise17();
        promise17State();
        promise27();
    }

    private void promise15() {
        test(15, "NONE if the history is empty", "a new object", () ->
            changesNothing("undo", Used::new, Used::undo, NONE));
        test(15, "NONE if the history is empty", "all is undone: the state stays", () -> {
            Used x = new Used();
            x.put(0, 1);
            due("undo", x.undo(), 0);
            due("undo", x.undo(), NONE);
            due("value", x.value(LIVE, 0), NONE);
            due("states", x.states(), 0);
        });
        test(15, "NONE if the history is empty", "states that were dropped don't come back", () -> {
            Used x = Setups.withRows(9);
            for (int undone = 0; undone < 5; undone++) {
                x.undo();
            }
            due("undo", x.undo(), NONE);
            due("rows", x.table(LIVE, 0), 4);
        });
        test(15, "Returns the number of states that are left in the history", "5 to 0", () -> {
            Used x = Setups.withRows(5);
            for (int left = 4; left >= 0; left--) {
                due("undo", x.undo(), left);
                due("rows", x.table(LIVE, 0), left);
            }
        });
        test(15, "Restores the latest state of the history and removes it from the history.", "undo is not undone", () -> {
            Used x = new Used();
            x.put(0, 3);
            x.put(0, 4);
            x.undo();
            x.put(0, 5);
            due("undo", x.undo(), 1);
            due("value", x.value(LIVE, 0), 3);
            due("undo", x.undo(), 0);
            due("value", x.value(LIVE, 0), NONE);
        });
        test(15, "The text and the snapshot do not change.", "the text", () -> {
            Used x = Setups.withText("t");
            x.put(0, 1);
            x.append(',');
            x.undo();
            due("length", x.clearText(), 2);
        });
        test(15, "The text and the snapshot do not change.", "the snapshot", () -> {
            Used x = new Used();
            x.put(0, 1);
            x.save();
            x.put(0, 2);
            x.undo();
            x.undo();
            due("restore", x.restore(), 1);
            due("value", x.value(LIVE, 0), 1);
        });
        test(15, "The text and the snapshot do not change.", "a snapshot remains that the undone state was before", () -> {
            Used x = new Used();
            x.put(0, 1);
            x.put(0, 2);
            x.save();
            x.undo();
            due("restore", x.restore(), 1);
            due("value", x.value(LIVE, 0), 2);
        });
    }

    private void promise15History() {
        String words = "The history holds at most 5 states; when a sixth state is recorded, the oldest one is dropped.";
        test(15, words, "five actions", () -> {
            Used x = Setups.withRows(5);
            due("states", x.states(), 5);
            for (int undone = 0; undone < 5; undone++) {
                x.undo();
            }
            due("the first state is there", x.table(LIVE, 0), 0);
        });
        test(15, words, "six actions", () -> {
            Used x = Setups.withRows(6);
            due("states", x.states(), 5);
            for (int undone = 0; undone < 5; undone++) {
                x.undo();
            }
            due("the first state is not there", x.table(LIVE, 0), 1);
        });
        test(15, words, "many actions, with undo between them", () -> {
            Used x = new Used();
            for (int round = 0; round < 20; round++) {
                x.put(0, round);
                x.put(1, round);
                x.put(2, round);
                due("undo", x.undo(), Math.min(round + 2, 4));
                x.undo();
            }
            for (int left = 2; left >= 0; left--) {
                due("undo", x.undo(), left);
                due("value", x.value(LIVE, 0), left + 16);
                due("value", x.value(LIVE, 1), NONE);
            }
        });
        test(15, "A method that returns an error code changes nothing.", "a full history behind refused calls", () -> {
            Used x = new Used();
            for (int value = 0; value < 6; value++) {
                x.put(0, value);
            }
            x.put(0, 100);
            x.erase(32);
            x.begin(5, 1);
            x.tick(0);
            x.lock();
            x.unlock();
            x.swap();
            x.giveUp();
            x.set(STEPS, 9);
            x.run();
            x.restore();
            for (int left = 4; left >= 0; left--) {
                due("undo", x.undo(), left);
                due("value", x.value(LIVE, 0), left);
            }
        });
    }

    private void promise15Recorded() {
        String words = "Each action that returns no error code records the state before it in the history, "
            + "even if the action changes nothing.";
        test(15, words, "put", () -> isRecorded("put", () -> Setups.withRows(2), x -> x.put(0, 1)));
        test(15, words, "put of a new row", () -> isRecorded("put", () -> Setups.withRows(2), x -> x.put(9, 1)));
        test(15, words, "put that changes nothing", () -> isRecorded("put", () -> Setups.withRows(2), x -> x.put(0, 3)));
        test(15, words, "erase", () -> isRecorded("erase", () -> Setups.withRows(2), x -> x.erase(1)));
        test(15, words, "erase of nothing", () -> isRecorded("erase", () -> Setups.withRows(2), x -> x.erase(9)));
        test(15, words, "tick without a copy", () -> isRecorded("tick", () -> Setups.withRows(2), x -> x.tick(3)));
        test(15, words, "set", () -> isRecorded("set", () -> Setups.withRows(2), x -> x.set(LAG, 3)));
        test(15, words, "set to the same value", () -> isRecorded("set", () -> Setups.withRows(2), x -> x.set(LAG, 6)));
        test(15, words, "run", () -> isRecorded("run", () -> Setups.withText("p1=1,b11,t,l,s"), Used::run));
        test(15, words, "run of no order", () -> isRecorded("run", () -> Setups.withText("s"), Used::run));
        test(15, words, "restore", () -> isRecorded("restore", () -> saved(1), x -> x.restore()));
        test(15, words, "restore that changes nothing", () -> isRecorded("restore", () -> saved(0), x -> x.restore()));
        test(15, words, "more than five of them", () -> {
            Used x = new Used();
            for (int call = 1; call <= 7; call++) {
                x.erase(0);
                due("states", x.states(), Math.min(call, 5));
            }
        });
    }

    /** A snapshot, with so many puts behind it. */
    private static Used saved(int puts) {
        Used x = Setups.withRows(2);
        x.save();
        for (int put = 0; put < puts; put++) {
            x.put(5, put);
        }
        return x;
    }

    private void promise15RecordedCopy() {
        String words = "The actions are put, erase, begin, tick, lock, unlock, swap, giveUp, set, run and restore.";
        test(15, words, "begin", () -> isRecorded("begin", () -> Setups.withRows(2), x -> x.begin(1, 2)));
        test(15, words, "begin behind giveUp", () -> isRecorded("begin", () -> {
            Used x = Setups.chasingLog(9);
            x.giveUp();
            return x;
        }, x -> x.begin(1, 2)));
        test(15, words, "put that is logged", () -> isRecorded("put", () -> Setups.withLog(23), x -> x.put(0, 1)));
        test(15, words, "put that ends the copy", () -> isRecorded("put", () -> Setups.withLog(24), x -> x.put(0, 1)));
        test(15, words, "erase that ends the copy", () -> isRecorded("erase", () -> Setups.withLog(24), x -> x.erase(0)));
        test(15, words, "tick that copies and applies", () -> isRecorded("tick", () -> Setups.withLog(9), x -> x.tick(2)));
        test(15, words, "tick that is throttled", () -> isRecorded("tick", () -> Setups.withLog(24), x -> x.tick(1)));
        test(15, words, "tick that releases the lock", () -> isRecorded("tick", () -> Setups.lockedLog(24), x -> x.tick(6)));
        test(15, words, "lock", () -> isRecorded("lock", () -> Setups.chasingLog(1), Used::lock));
        test(15, words, "unlock", () -> isRecorded("unlock", () -> Setups.lockedLog(1), Used::unlock));
        test(15, words, "swap", () -> isRecorded("swap", () -> Setups.inPhase(3, 2), Used::swap));
        test(15, words, "the second swap", () -> isRecorded("swap", () -> {
            Used x = Setups.swapped(3);
            x.erase(1);
            x.begin(2, 8);
            x.tick(1);
            x.lock();
            return x;
        }, Used::swap));
        test(15, words, "giveUp", () -> isRecorded("giveUp", () -> Setups.chasingLog(1), Used::giveUp));
        test(15, words, "nothing else", () -> {
            Used x = Setups.withRows(2);
            x.save();
            Setups.write(x, "t,t");
            x.fault();
            x.clearText();
            x.value(LIVE, 0);
            x.table(LIVE, 0);
            x.copy(0);
            x.entry(0, 0);
            x.changed(0, 0, 0);
            x.differences();
            x.firstDifference();
            x.setting(0);
            x.total(0);
            x.states();
            x.readyIn();
            x.leastLot(1);
            x.progress();
            due("states", x.states(), 2);
        });
    }

    private void promise15State() {
        String words = "The state consists of the tables, the copy with all that belongs to it, the settings, "
            + "and the numbers that total returns.";
        test(15, words, "the log, as others take its places", () -> {
            Used x = Setups.chasingLog(24);
            String full = Picture.ofState(x);
            x.tick(8);
            x.put(9, 1);
            x.erase(9);
            x.put(8, 2);
            for (int undone = 0; undone < 4; undone++) {
                x.undo();
            }
            dueText("the state", Picture.ofState(x), full);
        });
        test(15, words, "live and old table, as others take their places", () -> {
            Used x = Setups.swapped(3);
            String swapped = Picture.ofState(x);
            Setups.write(x, "e0,b01,t9,l,s");
            due("run", x.run(), 5);
            due("the old table has fewer rows", x.table(OLD, 0), 2);
            x.undo();
            dueText("the state", Picture.ofState(x), swapped);
        });
        test(15, words, "there was no old table", () -> {
            Used x = Setups.inPhase(3, 2);
            x.swap();
            x.undo();
            due("old table", x.table(OLD, 0), NONE);
            due("a value of it", x.value(OLD, 0), NONE);
        });
        test(15, words, "the copy of before, behind another one", () -> {
            Used x = Setups.withRows(6);
            x.begin(2, 3);
            x.tick(1);
            x.put(0, 9);
            String before = Picture.ofState(x);
            x.giveUp();
            x.begin(4, 5);
            x.tick(2);
            x.undo();
            x.undo();
            x.undo();
            dueText("the state", Picture.ofState(x), before);
        });
        test(15, words, "the age of the lock", () -> {
            Used x = Setups.inPhase(3, 1);
            x.tick(4);
            x.tick(1);
            x.undo();
            due("age", x.copy(5), 4);
        });
        test(15, words, "settings and totals", () -> {
            Used x = new Used();
            x.set(PATIENCE, 20);
            x.tick(99);
            x.undo();
            due("ticks", x.total(7), 0);
            x.undo();
            due("PATIENCE", x.setting(PATIENCE), 5);
        });
    }

    private void promise15NotState() {
        String words = "The text, the snapshot and the history itself are not part of the state.";
        test(15, words, "restore leaves the text", () -> {
            Used x = Setups.withText("t");
            x.save();
            x.append(',');
            x.restore();
            due("fault", x.fault(), 2);
        });
        test(15, words, "restore leaves the history", () -> {
            Used x = new Used();
            x.put(0, 1);
            x.save();
            x.put(0, 2);
            x.restore();
            due("states", x.states(), 3);
            due("undo", x.undo(), 2);
            due("value", x.value(LIVE, 0), 2);
        });
        test(15, words, "a state of the history has no snapshot of its own", () -> {
            Used x = new Used();
            x.put(0, 1);
            x.put(0, 2);
            x.save();
            x.undo();
            x.undo();
            due("restore", x.restore(), 1);
            due("value", x.value(LIVE, 0), 2);
        });
    }

    private void promise16() {
        test(16, "Returns the number of rows of the live table.", "empty, some, full", () -> {
            due("empty", new Used().save(), 0);
            due("two", Setups.withRows(2).save(), 2);
            due("full", Setups.withRows(32).save(), 32);
        });
        test(16, "Takes a snapshot of the state, which replaces the previous snapshot.", "the second one", () -> {
            Used x = new Used();
            x.save();
            x.put(1, 1);
            x.put(2, 2);
            due("save", x.save(), 2);
            x.put(3, 3);
            due("restore", x.restore(), 2);
        });
        test(16, "Takes a snapshot of the state, which replaces the previous snapshot.", "a smaller one", () -> {
            Used x = Setups.withRows(3);
            x.save();
            x.erase(0);
            x.erase(1);
            x.erase(2);
            due("save", x.save(), 0);
            x.put(9, 9);
            due("restore", x.restore(), 0);
        });
        test(16, "This is not an action.", "it is not recorded", () -> {
            Used x = Setups.withRows(2);
            x.save();
            due("states", x.states(), 2);
            due("undo", x.undo(), 1);
            due("rows", x.table(LIVE, 0), 1);
        });
        test(16, "This is not an action.", "the state does not change", () -> {
            Used x = Setups.lockedLog(5);
            x.save();
            dueText("the state", Picture.ofState(x), Picture.ofState(Setups.lockedLog(5)));
        });
    }

    private void promise17() {
        test(17, "NOT_POSSIBLE if there is no snapshot", "a new object, and one with a history", () -> {
            changesNothing("restore", Used::new, Used::restore, NOT_POSSIBLE);
            changesNothing("restore", () -> Setups.withRows(6), Used::restore, NOT_POSSIBLE);
            changesNothing("restore", () -> Setups.lockedLog(3), Used::restore, NOT_POSSIBLE);
        });
        test(17, "Returns the number of rows of the live table; NOT_POSSIBLE if there is no snapshot.",
            "of the snapshot: empty, and full", () -> {
            Used empty = new Used();
            empty.save();
            empty.put(0, 1);
            due("empty", empty.restore(), 0);
            Used full = Setups.withRows(32);
            full.save();
            full.erase(0);
            due("full", full.restore(), 32);
        });
        test(17, "The snapshot remains.", "restore again and again", () -> {
            Used x = Setups.withRows(2);
            x.save();
            for (int value = 0; value < 9; value++) {
                x.put(0, value);
                x.put(9, value);
                due("restore", x.restore(), 2);
                due("value", x.value(LIVE, 0), 3);
            }
        });
        test(17, "The snapshot remains.", "changes behind restore don't reach it", () -> {
            Used x = Setups.withRows(2);
            x.begin(0, 1);
            x.save();
            x.restore();
            x.put(0, 50);
            x.tick(9);
            due("restore", x.restore(), 2);
            dueValues("live", x, LIVE, 3, 10);
            due("rows of the shadow table", x.table(SHADOW, 0), 0);
            due("entries", x.copy(4), 0);
        });
        test(17, "Restores the state of the snapshot.", "restore is an action", () -> {
            Used x = new Used();
            x.save();
            x.put(0, 1);
            x.restore();
            due("states", x.states(), 2);
            due("undo", x.undo(), 1);
            due("value", x.value(LIVE, 0), 1);
        });
    }

    private void promise17State() {
        test(17, "Restores the state of the snapshot.", "with a copy, behind a swap", () -> {
            Used x = Setups.withRows(6);
            x.begin(2, 2);
            x.tick(1);
            x.put(2, 5);
            x.save();
            String saved = Picture.ofState(x);
            x.tick(7);
            x.lock();
            x.swap();
            x.erase(0);
            x.set(STRICT, 1);
            due("restore", x.restore(), 6);
            dueText("the state", Picture.ofState(x), saved);
        });
        test(17, "Restores the state of the snapshot.", "without a copy, behind a begin", () -> {
            Used x = Setups.withRows(2);
            x.save();
            x.begin(0, 1);
            x.tick(1);
            x.put(0, 1);
            x.restore();
            dueText("the state", Picture.ofState(x), Picture.ofState(Setups.withRows(2)));
        });
        test(17, "Restores the state of the snapshot.", "a lock with its age", () -> {
            Used x = Setups.inPhase(3, 1);
            x.tick(4);
            x.save();
            x.tick(2);
            due("restore", x.restore(), 1);
            due("age", x.copy(5), 4);
            due("timeouts", x.total(3), 0);
            due("tick", x.tick(1), 3);
            due("tick", x.tick(1), 2);
        });
    }

    private void promise27() {
        test(27, "Returns the number.", "empty", () -> due("states", new Used().states(), 0));
        test(27, "Returns the number.", "full", () -> due("states", Setups.withRows(9).states(), 5));
        test(27, "---- queries; they change nothing.", "states", () ->
            changesNothing("states", () -> Setups.withRows(9), Used::states, 5));
        test(27, "Returns the number of states in the history.", "0 to 5, and down again", () -> {
            Used x = new Used();
            for (int put = 1; put <= 7; put++) {
                x.put(0, put);
                due("states", x.states(), Math.min(put, 5));
            }
            for (int left = 4; left >= 0; left--) {
                x.undo();
                due("states", x.states(), left);
            }
            x.undo();
            due("states", x.states(), 0);
        });
        test(27, "Returns the number of states in the history.", "refused calls are not recorded", () -> {
            Used x = Setups.withRows(2);
            x.put(0, 100);
            x.put(32, 0);
            x.lock();
            x.tick(0);
            due("states", x.states(), 2);
        });
    }
}
