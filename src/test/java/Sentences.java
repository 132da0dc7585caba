import java.util.ArrayList;
import java.util.List;
import java.util.function.Supplier;
import java.util.function.ToIntFunction;

/** Tests that stand for a sentence of the document each: they quote it, behind the number of its promise. */
abstract class Sentences {
    static final int NO_SUCH = -1, BAD_VALUE = -2, TOO_MANY = -3, NOT_POSSIBLE = -4, NONE = -5;
    static final int STEPS = 0, LAG = 1, PATIENCE = 2, STRICT = 3;
    static final int LIVE = 0, SHADOW = 1, OLD = 2;
    static final int[] NOT_KEYS = {-1, 32, NONE, Integer.MIN_VALUE, Integer.MAX_VALUE};
    static final int[] NOT_VALUES = {-1, 100, NONE, Integer.MIN_VALUE, Integer.MAX_VALUE};

    /** The words are the document's own; the case tells which one of those that they name. */
    record Test(int promise, String words, String ofCase, Runnable calls) {
        String name() {
            return "promise " + promise + ", \"" + words + "\", " + ofCase;
        }
    }

    private final List<Test> tests = new ArrayList<>();
    private Checks checks;

    /** Names all tests, by calls of test. */
    abstract void tell();

    final void test(int promise, String words, String ofCase, Runnable calls) {
        tests.add(new Test(promise, words, ofCase, calls));
    }

    final List<Test> told() {
        if (tests.isEmpty()) {
            tell();
        }
        return tests;
    }

    final void runAll() {
        checks = new Checks(getClass().getName());
        for (Test test : told()) {
            checks.begin(test.name());
            try {
                test.calls().run();
            } catch (RuntimeException thrown) {
                checks.fail("throws " + thrown);
            }
        }
        System.out.println(getClass().getName() + ": " + tests.size() + " tests of sentences");
        checks.end();
    }

    // ---- what a test may ask

    final void due(String what, long got, long want) {
        checks.due(what, got, want);
    }

    final void dueDouble(String what, double got, double want) {
        checks.dueDouble(what, got, want);
    }

    final void dueText(String what, String got, String want) {
        checks.dueText(what, got, want);
    }

    /** The rows with the keys 0, 1, .. have these values. */
    final void dueValues(String what, Used x, int table, int... values) {
        for (int key = 0; key < values.length; key++) {
            due(what + ", key " + key, x.value(table, key), values[key]);
        }
    }

    /** What copy tells, from 0 on. */
    final void dueCopy(String what, Used x, int... told) {
        for (int index = 0; index < told.length; index++) {
            due(what + ", copy(" + index + ")", x.copy(index), told[index]);
        }
    }

    /**
     * A call that answers this, and changes nothing: neither the state nor history, snapshot or text. The start
     * is made twice, by 120 calls at most, so that a table can be looked at that did not get the call.
     */
    final void changesNothing(String call, Supplier<Used> start, ToIntFunction<Used> calls, int want) {
        Used x = start.get();
        due(call, calls.applyAsInt(x), want);
        dueText("all behind " + call, Picture.ofAll(x), Picture.ofAll(start.get()));
    }

    /** An action that is kept in the history, so that undo brings the state before it back. */
    final void isRecorded(String action, Supplier<Used> start, ToIntFunction<Used> calls) {
        Used x = start.get();
        int before = x.states();
        calls.applyAsInt(x);
        due("states behind " + action, x.states(), Math.min(before + 1, 5));
        x.undo();
        dueText("the state behind undo of " + action, Picture.ofState(x), Picture.ofState(start.get()));
    }
}
