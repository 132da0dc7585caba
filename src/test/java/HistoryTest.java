import java.util.function.Consumer;

/** Promises 15 to 17 and 27: history and snapshot. */
public final class HistoryTest {
    private static final Checks CHECKS = new Checks("HistoryTest");

    public static void main(String[] args) {
        promise15Undo();
        promise15UndoOfEachAction();
        promise15UndoDropsTheOldest();
        promise15UndoBehindRefusedCalls();
        promise15UndoBringsAllBack();
        promise16Save();
        promise17Restore();
        promise27States();
        CHECKS.end();
    }

    private static void promise15Undo() {
        ShadowTable x = new ShadowTable();
        CHECKS.unchanged("undo of nothing", x, x::undo, ShadowTable.NONE);
        x.put(0, 1);
        x.put(0, 2);
        x.append('t');
        CHECKS.due("undo", x.undo(), 1);
        CHECKS.due("the value", x.value(0, 0), 1);
        CHECKS.due("the text does not change", x.clearText(), 1);
        CHECKS.due("undo", x.undo(), 0);
        CHECKS.due("the value", x.value(0, 0), ShadowTable.NONE);
        CHECKS.due("undo", x.undo(), ShadowTable.NONE);
        x.put(0, 3);
        x.put(0, 4);
        x.undo();
        x.put(0, 5);
        CHECKS.due("undo behind undo and put", x.undo(), 1);
        CHECKS.due("the value", x.value(0, 0), 3);

        ShadowTable y = new ShadowTable();
        y.put(1, 1);
        y.save();
        y.put(1, 2);
        y.undo();
        y.undo();
        CHECKS.due("the snapshot does not change", y.restore(), 1);
        CHECKS.due("the value", y.value(0, 1), 1);
    }

    /** The same state with a history of one state, which gives the next action room. */
    private static ShadowTable withShortHistory(ShadowTable x) {
        x.save();
        while (x.states() > 0) {
            x.undo();
        }
        x.restore();
        return x;
    }

    private static void undone(String what, ShadowTable start, Consumer<ShadowTable> action) {
        ShadowTable x = withShortHistory(start);
        String before = Picture.of(x);
        action.accept(x);
        CHECKS.due(what + " is recorded", x.states(), 2);
        CHECKS.due("undo of " + what, x.undo(), 1);
        CHECKS.dueText("the picture behind undo of " + what, Picture.of(x), before);
    }

    private static void promise15UndoOfEachAction() {
        undone("put", Setups.withRows(2), x -> x.put(0, 1));
        undone("put that changes nothing", Setups.withRows(2), x -> x.put(0, 3));
        undone("put that is logged", Setups.withLog(23), x -> x.put(0, 1));
        undone("put that ends the copy", Setups.withLog(24), x -> x.put(0, 1));
        undone("erase", Setups.withRows(2), x -> x.erase(1));
        undone("erase of nothing", Setups.withRows(2), x -> x.erase(9));
        undone("begin", Setups.withRows(2), x -> x.begin(1, 2));
        undone("tick without a copy", Setups.withRows(2), x -> x.tick(3));
        undone("tick that copies and applies", Setups.withLog(9), x -> x.tick(2));
        undone("tick that is throttled", Setups.withLog(24), x -> x.tick(1));
        undone("tick that releases the lock", Setups.locked(2, 24), x -> x.tick(6));
        undone("lock", Setups.chasing(2, 1), x -> x.lock());
        undone("unlock", Setups.locked(2, 1), x -> x.unlock());
        undone("swap", Setups.locked(2, 0), x -> x.swap());
        undone("giveUp", Setups.chasing(2, 1), x -> x.giveUp());
        undone("set", Setups.withRows(2), x -> x.set(ShadowTable.LAG, 3));
        undone("run", Setups.withText("p1=1,b11,t,l,s,p1=5"), x -> x.run());
        undone("restore", Setups.withRows(2), x -> x.restore());
    }

    private static void promise15UndoDropsTheOldest() {
        ShadowTable x = new ShadowTable();
        for (int value = 0; value < 9; value++) {
            x.put(0, value);
        }
        for (int left = 4; left >= 0; left--) {
            CHECKS.due("undo", x.undo(), left);
            CHECKS.due("the value", x.value(0, 0), left + 3);
        }
        CHECKS.due("undo", x.undo(), ShadowTable.NONE);
        CHECKS.due("the value", x.value(0, 0), 3);

        ShadowTable y = Setups.chasing(3, 2);
        y.lock();
        y.tick(1);
        String locked = Picture.ofState(y);
        y.swap();
        CHECKS.due("undo of swap", y.undo(), 4);
        y.tick(1);
        y.undo();
        CHECKS.dueText("the locked picture", Picture.ofState(y), locked);
        CHECKS.due("undo of tick", y.undo(), 3);
        CHECKS.due("the log is back", y.copy(4), 2);
        CHECKS.due("its first entry", y.entry(0, 1), 50);
        CHECKS.due("the row in the shadow is back", y.value(1, 0), 3);
        CHECKS.due("the total is back", y.total(5), 0);
        CHECKS.due("undo of lock", y.undo(), 2);
        CHECKS.due("the phase is back", y.copy(0), 2);
    }

    private static void promise15UndoBehindRefusedCalls() {
        ShadowTable x = new ShadowTable();
        for (int value = 0; value < 6; value++) {
            x.put(0, value);
        }
        x.put(0, 100);
        x.lock();
        x.run();
        x.restore();
        for (int left = 4; left >= 0; left--) {
            CHECKS.due("undo behind refused calls", x.undo(), left);
            CHECKS.due("the value", x.value(0, 0), left);
        }
    }

    /** The undone action is followed by others that use the same places for other things. */
    private static void promise15UndoBringsAllBack() {
        ShadowTable x = Setups.chasing(4, 24);
        String full = Picture.ofState(x);
        x.tick(8);
        x.put(9, 1);
        x.erase(9);
        x.put(8, 2);
        for (int undone = 0; undone < 4; undone++) {
            x.undo();
        }
        CHECKS.dueText("the log is back", Picture.ofState(x), full);

        ShadowTable y = Setups.locked(4, 0);
        y.swap();
        y.erase(0);
        y.begin(2, 3);
        y.tick(2);
        y.lock();
        String locked = Picture.ofState(y);
        y.save();
        y.swap();
        CHECKS.due("the old table has fewer rows", y.table(ShadowTable.OLD, 0), 3);
        y.undo();
        CHECKS.dueText("the old table of before is back", Picture.ofState(y), locked);
        y.giveUp();
        y.begin(4, 5);
        y.undo();
        y.undo();
        CHECKS.dueText("the copy of before is back", Picture.ofState(y), locked);
        y.giveUp();
        y.begin(4, 5);
        y.restore();
        CHECKS.dueText("restore brings it back, too", Picture.ofState(y), locked);
    }

    private static void promise16Save() {
        ShadowTable x = new ShadowTable();
        CHECKS.due("save without rows", x.save(), 0);
        x.put(1, 1);
        x.put(2, 2);
        CHECKS.due("save", x.save(), 2);
        CHECKS.due("save is no action", x.states(), 2);
        x.put(3, 3);
        CHECKS.due("restore of the second snapshot", x.restore(), 2);
        CHECKS.due("undo", x.undo(), 3);
        CHECKS.due("rows behind undo", x.table(0, 0), 3);
        CHECKS.unchanged("save", x, x::save, 3);
        x.erase(3);
        x.undo();
        x.erase(2);
        CHECKS.due("restore of the third snapshot", x.restore(), 3);
    }

    private static void promise17Restore() {
        ShadowTable x = Setups.withRows(3);
        CHECKS.unchanged("restore of nothing", x, x::restore, ShadowTable.NOT_POSSIBLE);
        x.begin(2, 2);
        x.tick(1);
        x.put(2, 5);
        x.set(ShadowTable.STRICT, 1);
        x.save();
        String saved = Picture.ofState(x);
        x.tick(7);
        x.lock();
        x.swap();
        x.erase(0);
        x.set(ShadowTable.STRICT, 0);
        String before = Picture.ofState(x);
        CHECKS.due("restore", x.restore(), 3);
        CHECKS.dueText("the picture", Picture.ofState(x), saved);
        CHECKS.due("restore is an action", x.undo(), 4);
        CHECKS.dueText("its undo", Picture.ofState(x), before);
        CHECKS.due("the snapshot remains", x.restore(), 3);
        CHECKS.due("and again", x.restore(), 3);
        x.put(0, 77);
        CHECKS.due("a change behind restore", x.restore(), 3);
        CHECKS.dueText("does not reach the snapshot", Picture.ofState(x), saved);

        ShadowTable y = Setups.withText("t");
        y.save();
        y.append(',');
        y.restore();
        CHECKS.due("the text is not part of the state", y.fault(), 2);
        CHECKS.due("the history is not part of the state", y.states(), 1);
    }

    private static void promise27States() {
        ShadowTable x = new ShadowTable();
        CHECKS.unchanged("states", x, x::states, 0);
        for (int put = 1; put <= 7; put++) {
            x.put(0, put);
            CHECKS.due("states", x.states(), Math.min(put, 5));
        }
        x.put(0, 100);
        x.put(32, 0);
        x.lock();
        x.save();
        x.append('t');
        x.clearText();
        x.table(0, 0);
        CHECKS.due("what is no action is not recorded", x.states(), 5);
        x.undo();
        CHECKS.due("states", x.states(), 4);
    }
}
