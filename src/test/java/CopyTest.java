/** Promises 4 and 6 to 9: how a copy begins and ends, and its lock. Promise 5 is in TickTest. */
public final class CopyTest extends Sentences {
    public static void main(String[] arguments) {
        new CopyTest().runAll();
    }

    @Override
    void tell() {
        promise4();
        promise4Anew();
        promise4Refused();
        promise6();
        promise7();
        promise8();
        promise8Refused();
        promise9();
    }

    private void promise4() {
        test(4, "Begins a copy.", "its shadow table is there", () -> {
            Used x = Setups.withRows(4);
            x.begin(2, 3);
            dueCopy("begun", x, 1, 2, 3, 0, 0, NONE);
            due("rows of the shadow table", x.table(SHADOW, 0), 0);
            due("copies begun", x.total(0), 1);
            dueValues("live", x, LIVE, 3, 10, 17, 24, NONE);
        });
        test(4, "`kind`: 0 to 4", "least and greatest", () -> {
            for (int kind = 0; kind < 5; kind++) {
                Used x = new Used();
                due("begin of the kind " + kind, x.begin(kind, 1), 0);
                due("kind", x.copy(1), kind);
            }
        });
        test(4, "`lot`: 1 to 8", "least and greatest", () -> {
            for (int lot = 1; lot < 9; lot++) {
                Used x = new Used();
                due("begin with the lot " + lot, x.begin(0, lot), 0);
                due("lot", x.copy(2), lot);
            }
        });
        test(4, "Returns the number of rows of the live table", "empty, one row, full", () -> {
            due("no rows", new Used().begin(0, 1), 0);
            due("one row", Setups.withRows(1).begin(0, 1), 1);
            due("all rows", Setups.withRows(32).begin(3, 1), 32);
        });
        test(4, "Returns the number of rows of the live table", "not of the old one", () -> {
            Used x = Setups.swapped(5);
            x.erase(0);
            due("begin", x.begin(0, 1), 4);
        });
        test(4, "While a copy is under way, there is a shadow table, too.", "without a copy, in each phase", () -> {
            due("without a copy", Setups.inPhase(0, 2).table(SHADOW, 0), NONE);
            due("in the phase 1", Setups.inPhase(1, 2).table(SHADOW, 0), 0);
            due("in the phase 2", Setups.inPhase(2, 2).table(SHADOW, 0), 2);
            due("in the phase 3", Setups.inPhase(3, 2).table(SHADOW, 0), 2);
        });
        test(4, "A copy has a kind, a lot (1 to 8), a cursor (a key, 0 to 32), a log, "
            + "and a phase: 1 (copying), 2 (chasing) or 3 (locked).", "the phases in their order", () -> {
            Used x = Setups.withRows(1);
            x.begin(4, 8);
            dueCopy("copying", x, 1, 4, 8, 0, 0, NONE);
            x.tick(2);
            dueCopy("chasing", x, 2, 4, 8, 32, 0, NONE);
            x.lock();
            dueCopy("locked", x, 3, 4, 8, 32, 0, 0);
        });
        test(4, "Without a copy the phase is 0.", "new, given up, swapped", () -> {
            due("new", new Used().copy(0), 0);
            due("swapped", Setups.swapped(1).copy(0), 0);
            Used x = Setups.withLog(3);
            x.giveUp();
            due("given up", x.copy(0), 0);
        });
    }

    private void promise4Anew() {
        String words = "When a copy begins, its phase is 1, its cursor is 0, its shadow table has no rows, and its log is empty.";
        test(4, words, "behind a copy that was given up", () -> {
            Used x = Setups.withRows(9);
            x.begin(1, 4);
            x.tick(1);
            x.put(31, 1);
            x.giveUp();
            due("begin", x.begin(2, 5), 10);
            dueCopy("behind giveUp", x, 1, 2, 5, 0, 0, NONE);
            due("rows", x.table(SHADOW, 0), 0);
            due("the log", x.entry(0, 0), NONE);
        });
        test(4, words, "behind a copy that a full log ended", () -> {
            Used x = Setups.chasingLog(24);
            x.put(31, 1);
            due("begin", x.begin(2, 5), 25);
            dueCopy("behind the full log", x, 1, 2, 5, 0, 0, NONE);
            due("rows", x.table(SHADOW, 0), 0);
            due("the log", x.entry(0, 0), NONE);
            for (int entry = 0; entry < 24; entry++) {
                x.put(entry, 50);
            }
            due("the new log has room for 24", x.copy(4), 24);
        });
        test(4, words, "behind a swap", () -> {
            Used x = Setups.swapped(3);
            due("begin", x.begin(0, 1), 3);
            dueCopy("behind swap", x, 1, 0, 1, 0, 0, NONE);
            due("rows", x.table(SHADOW, 0), 0);
            due("no difference is gone", x.differences(), 3);
        });
        test(4, words, "behind a lock that had an age", () -> {
            Used x = Setups.inPhase(3, 1);
            x.tick(4);
            x.giveUp();
            x.begin(0, 1);
            x.tick(2);
            x.lock();
            due("age", x.copy(5), 0);
        });
    }

    private void promise4Refused() {
        test(4, "BAD_VALUE if an argument is out of range", "kind too small and too large", () -> {
            for (int kind : new int[] {-1, 5, NONE, Integer.MIN_VALUE, Integer.MAX_VALUE}) {
                changesNothing("begin of the kind " + kind, () -> Setups.withRows(2), x -> x.begin(kind, 1), BAD_VALUE);
            }
        });
        test(4, "BAD_VALUE if an argument is out of range", "lot too small and too large", () -> {
            for (int lot : new int[] {0, -1, 9, Integer.MIN_VALUE, Integer.MAX_VALUE}) {
                changesNothing("begin with the lot " + lot, () -> Setups.withRows(2), x -> x.begin(0, lot), BAD_VALUE);
            }
        });
        test(4, "NOT_POSSIBLE if a copy is under way", "in the phases 1 to 3", () -> {
            for (int phase = 1; phase < 4; phase++) {
                int which = phase;
                changesNothing("begin in the phase " + phase, () -> Setups.inPhase(which, 3), x -> x.begin(1, 2), NOT_POSSIBLE);
            }
        });
        test(4, "The error codes of a method are listed in the order in which they are checked", "begin", () -> {
            due("kind and copy", Setups.inPhase(1, 1).begin(5, 1), BAD_VALUE);
            due("lot and copy", Setups.inPhase(3, 1).begin(0, 9), BAD_VALUE);
        });
    }

    private void promise6() {
        test(6, "Locks the live table.", "put and erase are refused then", () -> {
            Used x = Setups.inPhase(2, 2);
            x.lock();
            due("phase", x.copy(0), 3);
            due("put", x.put(0, 1), NOT_POSSIBLE);
            due("erase", x.erase(0), NOT_POSSIBLE);
        });
        test(6, "To lock is possible in the phase 2 only; the phase is 3 then.", "the log need not be empty", () -> {
            Used x = Setups.chasingLog(24);
            x.lock();
            dueCopy("locked", x, 3, 0, 1, 32, 24, 0);
        });
        test(6, "Returns the number of entries of the log", "empty, one, full", () -> {
            due("empty", Setups.chasingLog(0).lock(), 0);
            due("one", Setups.chasingLog(1).lock(), 1);
            due("full", Setups.chasingLog(24).lock(), 24);
        });
        test(6, "NOT_POSSIBLE if the phase is not 2", "in the phases 0, 1 and 3", () -> {
            for (int phase : new int[] {0, 1, 3}) {
                changesNothing("lock in the phase " + phase, () -> Setups.inPhase(phase, 3), Used::lock, NOT_POSSIBLE);
            }
        });
        test(6, "NOT_POSSIBLE if the phase is not 2", "a refused lock leaves the age", () -> {
            Used x = Setups.inPhase(3, 1);
            x.tick(4);
            due("lock", x.lock(), NOT_POSSIBLE);
            due("age", x.copy(5), 4);
        });
        test(6, "NOT_POSSIBLE if the phase is not 2", "the last key is not yet copied", () -> {
            Used x = Setups.withRows(32);
            x.begin(0, 8);
            x.tick(3);
            due("lock", x.lock(), NOT_POSSIBLE);
            x.tick(1);
            due("lock", x.lock(), 0);
        });
    }

    private void promise7() {
        test(7, "Releases the lock: the phase is 2 then.", "put and erase are possible then", () -> {
            Used x = Setups.inPhase(3, 2);
            x.unlock();
            dueCopy("unlocked", x, 2, 0, 8, 32, 0, NONE);
            due("put", x.put(0, 1), 3);
            due("erase", x.erase(1), 10);
        });
        test(7, "This is not counted as a timeout.", "young and old lock", () -> {
            Used x = Setups.inPhase(3, 2);
            x.unlock();
            x.lock();
            x.tick(5);
            x.unlock();
            due("timeouts", x.total(3), 0);
        });
        test(7, "Returns the age of the lock in ticks", "from 0 to PATIENCE", () -> {
            for (int age = 0; age < 6; age++) {
                Used x = Setups.inPhase(3, 1);
                if (age > 0) {
                    x.tick(age);
                }
                due("unlock", x.unlock(), age);
            }
        });
        test(7, "Returns the age of the lock in ticks", "the greatest age of all", () -> {
            Used x = Setups.inPhase(3, 1);
            x.set(PATIENCE, 20);
            x.tick(20);
            due("unlock", x.unlock(), 20);
        });
        test(7, "Returns the age of the lock in ticks", "the next lock begins with 0", () -> {
            Used x = Setups.inPhase(3, 1);
            x.tick(3);
            x.unlock();
            x.lock();
            due("age", x.copy(5), 0);
            due("unlock", x.unlock(), 0);
        });
        test(7, "NOT_POSSIBLE if the phase is not 3", "in the phases 0 to 2", () -> {
            for (int phase = 0; phase < 3; phase++) {
                int which = phase;
                changesNothing("unlock in the phase " + phase, () -> Setups.inPhase(which, 3), Used::unlock, NOT_POSSIBLE);
            }
        });
        test(7, "NOT_POSSIBLE if the phase is not 3", "behind a timeout", () -> {
            Used x = Setups.inPhase(3, 1);
            x.tick(6);
            due("unlock", x.unlock(), NOT_POSSIBLE);
        });
    }

    private void promise8() {
        test(8, "The live table becomes the old table (in place of the one that there was), "
            + "the shadow table becomes the live table, and the copy is over.", "the first swap", () -> {
            Used x = Setups.withRows(2);
            x.begin(1, 8);
            x.tick(1);
            x.lock();
            x.swap();
            dueValues("live", x, LIVE, 6, 20, NONE);
            dueValues("old", x, OLD, 3, 10, NONE);
            dueCopy("over", x, 0, NONE, NONE, NONE, NONE, NONE);
            due("shadow table", x.table(SHADOW, 0), NONE);
        });
        test(8, "(in place of the one that there was)", "the second swap, with fewer rows", () -> {
            Used x = Setups.swapped(3);
            x.erase(0);
            x.begin(2, 8);
            x.tick(1);
            x.lock();
            due("swap", x.swap(), 2);
            dueValues("live", x, LIVE, NONE, 2, 43);
            dueValues("old", x, OLD, NONE, 20, 34);
        });
        test(8, "Swaps both tables.", "changes of the live table leave the old one", () -> {
            Used x = Setups.swapped(2);
            x.put(0, 50);
            x.erase(1);
            dueValues("live", x, LIVE, 50, NONE);
            dueValues("old", x, OLD, 3, 10);
        });
        test(8, "There is an old table behind a swap.", "not before it, also behind giveUp", () -> {
            Used x = Setups.inPhase(3, 2);
            due("before it", x.table(OLD, 0), NONE);
            x.giveUp();
            due("behind giveUp", x.table(OLD, 0), NONE);
            due("behind it", Setups.swapped(2).table(OLD, 0), 2);
        });
        test(8, "There is an old table behind a swap.", "it stays when a copy is given up", () -> {
            Used x = Setups.swapped(2);
            x.begin(0, 1);
            x.tick(1);
            x.giveUp();
            dueValues("old", x, OLD, 3, 10, NONE);
        });
        test(8, "Returns the number of rows of the live table afterwards", "empty, rows left out, full", () -> {
            Used empty = Setups.inPhase(3, 0);
            due("empty", empty.swap(), 0);
            due("the empty old table is there", empty.table(OLD, 0), 0);
            Used odd = Setups.withRows(3);
            odd.begin(3, 8);
            odd.tick(1);
            odd.lock();
            due("two of three are left out", odd.swap(), 1);
            due("full", Setups.inPhase(3, 32).swap(), 32);
        });
        test(8, "Swaps both tables.", "it is counted, and not as given up", () -> {
            Used x = Setups.swapped(2);
            due("swaps", x.total(1), 1);
            due("copies given up", x.total(2), 0);
        });
    }

    private void promise8Refused() {
        String words = "NOT_POSSIBLE if the phase is not 3, or the log is not empty";
        test(8, words, "in the phases 0 to 2", () -> {
            for (int phase = 0; phase < 3; phase++) {
                int which = phase;
                changesNothing("swap in the phase " + phase, () -> Setups.inPhase(which, 3), Used::swap, NOT_POSSIBLE);
            }
        });
        test(8, words, "one entry, and a full log", () -> {
            changesNothing("swap with an entry", () -> Setups.lockedLog(1), Used::swap, NOT_POSSIBLE);
            changesNothing("swap with a full log", () -> Setups.lockedLog(24), Used::swap, NOT_POSSIBLE);
        });
        test(8, "To swap is possible in the phase 3 only, and only if the log is empty.", "when the log is applied", () -> {
            Used x = Setups.lockedLog(4);
            x.tick(1);
            due("swap with one entry left", x.swap(), NOT_POSSIBLE);
            x.tick(1);
            due("swap with none left", x.swap(), 4);
        });
        test(8, "To swap is possible in the phase 3 only, and only if the log is empty.", "not behind a swap", () -> {
            Used x = Setups.swapped(1);
            due("swap", x.swap(), NOT_POSSIBLE);
            due("swaps", x.total(1), 1);
        });
        test(8, "To swap is possible in the phase 3 only, and only if the log is empty.", "the lock is as old as PATIENCE", () -> {
            Used x = Setups.inPhase(3, 1);
            x.tick(5);
            due("swap", x.swap(), 1);
        });
        test(8, "To swap is possible in the phase 3 only, and only if the log is empty.", "not behind a timeout", () -> {
            Used x = Setups.inPhase(3, 1);
            x.tick(6);
            due("swap", x.swap(), NOT_POSSIBLE);
        });
    }

    private void promise9() {
        test(9, "Gives the copy up.", "in the phases 1 to 3", () -> {
            for (int phase = 1; phase < 4; phase++) {
                Used x = Setups.inPhase(phase, 2);
                due("giveUp in the phase " + phase, x.giveUp(), phase == 1 ? 0 : 2);
                dueCopy("given up", x, 0, NONE, NONE, NONE, NONE, NONE);
            }
        });
        test(9, "To give a copy up means that it is over without a swap: the shadow table and the log are gone.",
            "the other tables stay", () -> {
            Used x = Setups.swapped(2);
            x.begin(1, 8);
            x.tick(1);
            x.put(0, 9);
            x.giveUp();
            due("shadow table", x.table(SHADOW, 0), NONE);
            due("its value", x.value(SHADOW, 1), NONE);
            due("the log", x.entry(0, 0), NONE);
            dueValues("live", x, LIVE, 9, 20, NONE);
            dueValues("old", x, OLD, 3, 10, NONE);
            due("swaps", x.total(1), 1);
            due("copies given up", x.total(2), 1);
        });
        test(9, "Returns the number of rows that the shadow table had", "empty, some, full", () -> {
            due("at once", Setups.inPhase(1, 5).giveUp(), 0);
            Used x = Setups.withRows(5);
            x.begin(0, 2);
            x.tick(2);
            due("two lots", x.giveUp(), 4);
            due("full", Setups.inPhase(2, 32).giveUp(), 32);
        });
        test(9, "Returns the number of rows that the shadow table had", "not of the live table, nor of the log", () -> {
            Used x = Setups.chasingLog(7);
            due("no entry is applied yet", x.giveUp(), 0);
            Used y = Setups.inPhase(2, 3);
            y.erase(0);
            due("an erased row is in the shadow table still", y.giveUp(), 3);
        });
        test(9, "NOT_POSSIBLE if no copy is under way", "new, behind giveUp, behind a swap", () -> {
            changesNothing("giveUp without a copy", () -> Setups.withRows(2), Used::giveUp, NOT_POSSIBLE);
            changesNothing("giveUp behind giveUp", () -> {
                Used x = Setups.withLog(2);
                x.giveUp();
                return x;
            }, Used::giveUp, NOT_POSSIBLE);
            changesNothing("giveUp behind a swap", () -> Setups.swapped(2), Used::giveUp, NOT_POSSIBLE);
        });
    }
}
