/** Promises 10, 25 and 26: settings and totals. */
public final class SettingsTest extends Sentences {
    private static final int[] FIRST = {3, 6, 5, 0};
    private static final int[] LEAST = {1, 0, 1, 0};
    private static final int[] MOST = {8, 24, 20, 1};
    private static final int[] NOT_SETTINGS = {-1, 4, NONE, Integer.MIN_VALUE, Integer.MAX_VALUE};

    public static void main(String[] arguments) {
        new SettingsTest().runAll();
    }

    @Override
    void tell() {
        promise10();
        promise10Refused();
        promise10TakesEffect();
        promise25();
        promise26();
        promise26OfEach();
    }

    private void promise10() {
        test(10, "Changes a setting.", "only this one", () -> {
            for (int setting = 0; setting < 4; setting++) {
                Used x = new Used();
                x.set(setting, MOST[setting]);
                for (int other = 0; other < 4; other++) {
                    due("setting " + other, x.setting(other), other == setting ? MOST[other] : FIRST[other]);
                }
            }
        });
        test(10, "`setting`: STEPS to STRICT", "first and last", () -> {
            Used x = new Used();
            due("set STEPS", x.set(0, 2), 3);
            due("STEPS", x.setting(STEPS), 2);
            due("set STRICT", x.set(3, 1), 0);
            due("STRICT", x.setting(STRICT), 1);
        });
        test(10, "`value`: the new value", "each value in the range", () -> {
            for (int setting = 0; setting < 4; setting++) {
                Used x = new Used();
                int previous = FIRST[setting];
                for (int value = LEAST[setting]; value <= MOST[setting]; value++) {
                    due("set " + setting + " to " + value, x.set(setting, value), previous);
                    due("setting " + setting, x.setting(setting), value);
                    previous = value;
                }
            }
        });
        test(10, "Returns the previous value", "the same value again", () -> {
            for (int setting = 0; setting < 4; setting++) {
                Used x = new Used();
                due("set " + setting, x.set(setting, MOST[setting]), FIRST[setting]);
                due("set " + setting, x.set(setting, MOST[setting]), MOST[setting]);
                due("states", x.states(), 2);
            }
        });
        test(10, "Returns the previous value", "0 is a value", () -> {
            Used x = new Used();
            x.set(LAG, 0);
            due("set LAG", x.set(LAG, 1), 0);
        });
        test(10, "Changes a setting.", "in each phase", () -> {
            for (int phase = 0; phase < 4; phase++) {
                Used x = Setups.inPhase(phase, 1);
                due("set in the phase " + phase, x.set(STEPS, 8), 3);
                due("phase", x.copy(0), phase);
            }
        });
    }

    private void promise10Refused() {
        test(10, "NO_SUCH if there is no such setting", "too small and too large", () -> {
            for (int setting : NOT_SETTINGS) {
                changesNothing("set " + setting, () -> Setups.withRows(1), x -> x.set(setting, 1), NO_SUCH);
            }
        });
        String words = "BAD_VALUE if value is out of its range";
        String[] names = {"STEPS (1 to 8", "LAG (0 to 24", "PATIENCE (1 to 20", "STRICT (0 or 1"};
        for (int number = 0; number < 4; number++) {
            int setting = number;
            test(10, words, names[setting] + "): too small", () ->
                changesNothing("set", () -> Setups.withRows(1), x -> x.set(setting, LEAST[setting] - 1), BAD_VALUE));
            test(10, words, names[setting] + "): too large", () ->
                changesNothing("set", () -> Setups.withRows(1), x -> x.set(setting, MOST[setting] + 1), BAD_VALUE));
            test(10, words, names[setting] + "): far off", () -> {
                for (int value : new int[] {NONE, 1000, Integer.MIN_VALUE, Integer.MAX_VALUE}) {
                    changesNothing("set to " + value, () -> Setups.withRows(1), x -> x.set(setting, value), BAD_VALUE);
                }
            });
        }
        test(10, "The error codes of a method are listed in the order in which they are checked", "set", () -> {
            due("setting and value", new Used().set(4, -1), NO_SUCH);
            due("setting and value", new Used().set(-1, 1000), NO_SUCH);
        });
    }

    private void promise10TakesEffect() {
        test(10, "Changes a setting.", "the next tick has it", () -> {
            Used x = Setups.withLog(20);
            x.set(STEPS, 8);
            x.tick(1);
            due("entries with STEPS 8", x.copy(4), 12);
            due("throttled with LAG 6", x.total(4), 1);
            x.set(STEPS, 1);
            x.set(LAG, 11);
            x.tick(1);
            due("entries with STEPS 1", x.copy(4), 11);
            due("throttled with LAG 11", x.total(4), 1);
            due("cursor", x.copy(3), 1);
        });
    }

    private void promise25() {
        test(25, "Returns its value; NO_SUCH if there is no such setting.", "each setting", () -> {
            Used x = new Used();
            x.set(STEPS, 4);
            x.set(LAG, 20);
            x.set(PATIENCE, 11);
            x.set(STRICT, 1);
            due("STEPS", x.setting(0), 4);
            due("LAG", x.setting(1), 20);
            due("PATIENCE", x.setting(2), 11);
            due("STRICT", x.setting(3), 1);
        });
        test(25, "`setting`: STEPS to STRICT", "first and last", () -> {
            due("STEPS", new Used().setting(0), 3);
            due("STRICT", new Used().setting(3), 0);
        });
        test(25, "Returns a setting.", "least and greatest value", () -> {
            for (int setting = 0; setting < 4; setting++) {
                Used x = new Used();
                x.set(setting, LEAST[setting]);
                due("setting " + setting, x.setting(setting), LEAST[setting]);
                x.set(setting, MOST[setting]);
                due("setting " + setting, x.setting(setting), MOST[setting]);
            }
        });
        test(25, "NO_SUCH if there is no such setting", "too small and too large", () -> {
            for (int setting : NOT_SETTINGS) {
                changesNothing("setting " + setting, () -> Setups.withRows(1), x -> x.setting(setting), NO_SUCH);
            }
        });
        test(25, "---- queries; they change nothing.", "setting", () -> {
            for (int setting = 0; setting < 4; setting++) {
                int which = setting;
                changesNothing("setting " + setting, () -> Setups.withRows(1), x -> x.setting(which), FIRST[which]);
            }
        });
    }

    private void dueTotals(Used x, int... totals) {
        for (int what = 0; what < totals.length; what++) {
            due("total " + what, x.total(what), totals[what]);
        }
    }

    private void promise26() {
        test(26, "Returns a number that is counted from the beginning.", "0 at first", () ->
            dueTotals(new Used(), 0, 0, 0, 0, 0, 0, 0, 0));
        test(26, "Returns the number; NO_SUCH if there is no such total.", "all of them, in one course", () -> {
            Used x = Setups.withRows(5);
            x.begin(3, 8);
            for (int key = 0; key < 11; key++) {
                x.put(key, 2 * key);
            }
            // 8, 5, 2 and 0 entries are left: the copy is throttled once, and then copies the keys 6 and 7, 9 and 10.
            x.tick(4);
            x.lock();
            x.tick(6);
            x.lock();
            x.swap();
            x.begin(0, 8);
            x.tick(1);
            x.giveUp();
            x.begin(0, 1);
            for (int put = 0; put < 25; put++) {
                x.put(0, put);
            }
            x.tick(2);
            dueTotals(x, 3, 1, 2, 1, 1, 11, 12, 13);
        });
        test(26, "NO_SUCH if there is no such total", "too small and too large", () -> {
            for (int what : new int[] {-1, 8, NONE, Integer.MIN_VALUE, Integer.MAX_VALUE}) {
                changesNothing("total " + what, () -> Setups.withRows(1), x -> x.total(what), NO_SUCH);
            }
        });
        test(26, "---- queries; they change nothing.", "total", () -> {
            changesNothing("total 0", () -> Setups.withLog(1), x -> x.total(0), 1);
            changesNothing("total 7", () -> Setups.inPhase(2, 1), x -> x.total(7), 5);
        });
    }

    private void promise26OfEach() {
        test(26, "0 for copies that were begun", "a refused begin is not counted", () -> {
            Used x = Setups.withLog(0);
            x.begin(0, 1);
            x.giveUp();
            x.begin(0, 9);
            due("copies begun", x.total(0), 1);
        });
        test(26, "1 for swaps", "a refused swap is not counted", () -> {
            Used x = Setups.lockedLog(1);
            x.swap();
            due("swaps", x.total(1), 0);
        });
        test(26, "2 for copies that were given up (by giveUp, and because of the log)", "both, and a refused giveUp", () -> {
            Used x = Setups.withLog(24);
            x.put(0, 0);
            due("because of the log", x.total(2), 1);
            x.giveUp();
            due("a refused giveUp", x.total(2), 1);
            x.begin(0, 1);
            x.giveUp();
            due("by giveUp", x.total(2), 2);
        });
        test(26, "3 for timeouts", "not for unlock, nor for a swap", () -> {
            Used x = Setups.inPhase(3, 1);
            x.unlock();
            x.lock();
            x.swap();
            due("timeouts", x.total(3), 0);
        });
        test(26, "5 for entries of logs that were applied", "not those of a log that was given up", () -> {
            Used x = Setups.withLog(5);
            x.tick(1);
            x.giveUp();
            x.begin(0, 1);
            x.put(0, 1);
            x.tick(1);
            due("entries applied", x.total(5), 4);
        });
        test(26, "6 for rows that the shadow tables got by copying keys", "not by entries, and over two copies", () -> {
            Used x = Setups.inPhase(2, 3);
            x.put(9, 9);
            x.tick(1);
            x.giveUp();
            due("rows copied", x.total(6), 3);
            x.begin(3, 8);
            x.tick(1);
            due("rows copied", x.total(6), 4);
        });
        test(26, "7 for ticks (also those without a copy)", "without a copy, throttled, released, refused", () -> {
            Used x = new Used();
            x.tick(99);
            due("without a copy", x.total(7), 99);
            x.tick(100);
            x.tick(0);
            due("refused", x.total(7), 99);
            Used throttled = Setups.withLog(24);
            throttled.tick(1);
            due("throttled", throttled.total(7), 1);
            Used released = Setups.inPhase(3, 1);
            released.tick(6);
            due("with a release", released.total(7), 11);
        });
        test(26, "Returns a number that is counted from the beginning.", "what would be is not counted", () -> {
            Used x = Setups.withLog(9);
            x.readyIn();
            x.leastLot(99);
            dueTotals(x, 1, 0, 0, 0, 0, 0, 0, 0);
        });
    }
}
