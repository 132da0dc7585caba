/** Promises 22 to 24 and 28 to 30: what a row would become, differences, and what would be. */
public final class ForecastTest extends Sentences {
    public static void main(String[] arguments) {
        new ForecastTest().runAll();
    }

    @Override
    void tell() {
        promise22();
        promise22Refused();
        promise23();
        promise23Differs();
        promise24();
        promise28();
        promise28Slow();
        promise28Refused();
        promise29();
        promise29Lots();
        promise29Refused();
        promise30();
    }

    private void promise22() {
        test(22, "Returns the value of the changed row", "each kind, key and value", () -> {
            for (int key = 0; key < 32; key++) {
                for (int value = 0; value < 100; value++) {
                    Used x = new Used();
                    String what = "changed " + key + " " + value + " by the kind ";
                    due(what + 0, x.changed(0, key, value), value);
                    due(what + 1, x.changed(1, key, value), value < 50 ? value + value : value + value - 100);
                    due(what + 2, x.changed(2, key, value), value % 10 * 10 + value / 10);
                    due(what + 3, x.changed(3, key, value), (value & 1) == 1 ? NONE : value);
                    due(what + 4, x.changed(4, key, value), value + key < 100 ? value + key : value + key - 100);
                }
            }
        });
        test(22, "`kind`: 0 to 4", "least and greatest", () -> {
            due("by the kind 0", new Used().changed(0, 1, 5), 5);
            due("by the kind 4", new Used().changed(4, 1, 5), 6);
        });
        test(22, "`key`: 0 to 31", "least and greatest", () -> {
            due("at 0", new Used().changed(4, 0, 5), 5);
            due("at 31", new Used().changed(4, 31, 5), 36);
        });
        test(22, "`value`: 0 to 99", "least and greatest", () -> {
            due("0", new Used().changed(0, 0, 0), 0);
            due("99", new Used().changed(0, 0, 99), 99);
        });
        test(22, "With the kind 1 its value v becomes 2 * v modulo 100.", "below, at and above 100", () -> {
            Used x = new Used();
            due("49", x.changed(1, 0, 49), 98);
            due("50", x.changed(1, 0, 50), 0);
            due("51", x.changed(1, 0, 51), 2);
            due("99", x.changed(1, 31, 99), 98);
        });
        test(22, "(7 counts as 07, and becomes 70)", "one digit, a zero behind", () -> {
            Used x = new Used();
            due("7", x.changed(2, 0, 7), 70);
            due("70", x.changed(2, 0, 70), 7);
            due("0", x.changed(2, 0, 0), 0);
            due("99", x.changed(2, 0, 99), 99);
        });
        test(22, "modulo 100", "the kind 4 below, at and above 100", () -> {
            Used x = new Used();
            due("68 at 31", x.changed(4, 31, 68), 99);
            due("69 at 31", x.changed(4, 31, 69), 0);
            due("99 at 31", x.changed(4, 31, 99), 30);
            due("99 at 0", x.changed(4, 0, 99), 99);
            due("99 at 1", x.changed(4, 1, 99), 0);
        });
        test(22, "NONE if the row is left out", "the kind 3", () -> {
            Used x = new Used();
            due("0", x.changed(3, 0, 0), 0);
            due("1", x.changed(3, 0, 1), NONE);
            due("98", x.changed(3, 31, 98), 98);
            due("99", x.changed(3, 31, 99), NONE);
            due("an odd key is no matter", x.changed(3, 31, 0), 0);
        });
        test(22, "Tells what a row would become.", "no matter what the table and the copy are", () -> {
            Used x = Setups.withRows(1);
            x.begin(3, 1);
            due("by the kind 1", x.changed(1, 0, 60), 20);
            due("without such a row", x.changed(0, 9, 60), 60);
        });
        test(22, "---- queries; they change nothing.", "changed", () ->
            changesNothing("changed", () -> Setups.withLog(2), x -> x.changed(1, 0, 9), 18));
    }

    private void promise22Refused() {
        test(22, "NO_SUCH if there is no such key", "too small and too large", () -> {
            for (int key : NOT_KEYS) {
                changesNothing("changed at " + key, () -> Setups.withRows(1), x -> x.changed(0, key, 0), NO_SUCH);
            }
        });
        test(22, "BAD_VALUE if kind or value is out of range", "kind too small and too large", () -> {
            for (int kind : new int[] {-1, 5, NONE, Integer.MIN_VALUE, Integer.MAX_VALUE}) {
                changesNothing("changed by " + kind, () -> Setups.withRows(1), x -> x.changed(kind, 31, 99), BAD_VALUE);
            }
        });
        test(22, "BAD_VALUE if kind or value is out of range", "value too small and too large", () -> {
            for (int value : NOT_VALUES) {
                for (int kind = 0; kind < 5; kind++) {
                    due("changed " + value + " by " + kind, new Used().changed(kind, 0, value), BAD_VALUE);
                }
                changesNothing("changed " + value, () -> Setups.withRows(1), x -> x.changed(0, 0, value), BAD_VALUE);
            }
        });
        test(22, "The error codes of a method are listed in the order in which they are checked", "changed", () -> {
            due("kind, key and value", new Used().changed(5, 32, 100), NO_SUCH);
            due("kind and key", new Used().changed(-1, -1, 0), NO_SUCH);
            due("key and value", new Used().changed(0, 32, -1), NO_SUCH);
        });
    }

    private void promise23() {
        test(23, "NONE if no copy is under way", "new, given up, swapped", () -> {
            changesNothing("differences", () -> Setups.withRows(2), Used::differences, NONE);
            due("swapped", Setups.swapped(2).differences(), NONE);
            Used x = Setups.withLog(2);
            x.giveUp();
            due("given up", x.differences(), NONE);
        });
        test(23, "Returns the number of these keys", "none, and all", () -> {
            due("an empty table", Setups.inPhase(1, 0).differences(), 0);
            due("all keys", Setups.inPhase(1, 32).differences(), 32);
            due("all are copied", Setups.inPhase(2, 32).differences(), 0);
            due("under a lock", Setups.inPhase(3, 32).differences(), 0);
        });
        test(23, "---- queries; they change nothing.", "differences", () ->
            changesNothing("differences", () -> Setups.inPhase(1, 4), Used::differences, 4));
        test(23, "Returns the number of these keys", "lot by lot", () -> {
            Used x = Setups.withRows(6);
            x.begin(4, 1);
            for (int left = 6; left > 0; left--) {
                due("differences", x.differences(), left);
                x.tick(1);
            }
            due("differences", x.differences(), 0);
        });
    }

    private void promise23Differs() {
        String words = "Returns the keys at which the shadow table differs from what it would be if all rows of the live table "
            + "were changed now by the kind of the copy.";
        test(23, words, "rows that are left out are no difference", () -> {
            Used x = Setups.withRows(4);
            x.begin(3, 8);
            due("at the beginning", x.differences(), 2);
            x.tick(1);
            due("all copied", x.differences(), 0);
        });
        test(23, words, "each change of the live table", () -> {
            Used x = Setups.withRows(4);
            x.begin(3, 8);
            x.tick(1);
            x.put(0, 4);
            due("a row that is no more left out", x.differences(), 1);
            x.put(1, 11);
            due("a row that is left out now", x.differences(), 2);
            x.put(3, 26);
            due("another value", x.differences(), 3);
            x.put(2, 19);
            due("left out as before", x.differences(), 3);
            x.erase(3);
            due("a row that is gone", x.differences(), 3);
            x.erase(2);
            due("a row that was left out is gone", x.differences(), 3);
            x.put(31, 0);
            due("a new row", x.differences(), 4);
            x.tick(3);
            due("the log is applied", x.differences(), 0);
        });
        test(23, words, "the same value again, not yet applied", () -> {
            Used x = Setups.inPhase(2, 2);
            x.put(1, 10);
            due("differences", x.differences(), 0);
        });
        test(23, words, "another value that becomes the same", () -> {
            Used x = new Used();
            x.put(0, 10);
            x.begin(1, 1);
            x.tick(2);
            x.put(0, 60);
            due("10 and 60 both become 20", x.differences(), 0);
        });
        test(23, words, "a value that becomes 0 is no missing row", () -> {
            Used x = new Used();
            x.put(0, 50);
            x.begin(1, 1);
            due("at the beginning", x.differences(), 1);
            x.tick(2);
            due("copied", x.differences(), 0);
        });
        test(23, words, "an older entry is applied, a newer one waits", () -> {
            Used x = Setups.inPhase(2, 0);
            x.set(STEPS, 1);
            x.put(5, 1);
            x.erase(5);
            due("before", x.differences(), 0);
            x.tick(1);
            due("the row is there too long", x.differences(), 1);
            x.tick(1);
            due("behind", x.differences(), 0);
        });
    }

    private void promise24() {
        String none = "NONE if there is none, or no copy is under way";
        test(24, none, "there is none", () -> {
            due("an empty table", Setups.inPhase(1, 0).firstDifference(), NONE);
            changesNothing("firstDifference", () -> Setups.inPhase(2, 3), Used::firstDifference, NONE);
        });
        test(24, none, "no copy", () -> {
            changesNothing("firstDifference", () -> Setups.withRows(2), Used::firstDifference, NONE);
            due("swapped", Setups.swapped(2).firstDifference(), NONE);
            Used x = Setups.withLog(2);
            x.giveUp();
            due("given up", x.firstDifference(), NONE);
        });
        test(24, "Returns the least key at which it differs so.", "from the first to the last key", () -> {
            Used x = Setups.withRows(32);
            x.begin(0, 1);
            for (int key = 0; key < 32; key++) {
                due("firstDifference", x.firstDifference(), key);
                x.tick(1);
            }
            due("firstDifference", x.firstDifference(), NONE);
        });
        test(24, "Returns the least key at which it differs so.", "one of some", () -> {
            Used x = Setups.inPhase(2, 10);
            x.put(31, 0);
            due("the last key", x.firstDifference(), 31);
            x.erase(5);
            due("a lesser key", x.firstDifference(), 5);
            x.put(7, 1);
            due("a key between", x.firstDifference(), 5);
            x.put(0, 1);
            due("the first key", x.firstDifference(), 0);
        });
        test(24, "Returns the key; NONE if there is none, or no copy is under way.", "rows that are left out are no difference", () -> {
            Used x = Setups.withRows(4);
            x.begin(3, 8);
            due("the key 0 is left out", x.firstDifference(), 1);
        });
    }

    /** What readyIn tells comes true, tick by tick. */
    private void comesTrue(String what, Used x, int ticks) {
        for (int left = ticks; left > 0; left--) {
            due(what + ": readyIn", x.readyIn(), left);
            due(what + ": ready already", x.copy(0) == 2 && x.copy(4) == 0 ? 1 : 0, 0);
            x.tick(1);
        }
        due(what + ": phase", x.copy(0), 2);
        due(what + ": entries", x.copy(4), 0);
        due(what + ": readyIn", x.readyIn(), 0);
    }

    private void promise28() {
        String words = "Tells in how many ticks the phase would be 2 and the log empty, if nothing else is done.";
        test(28, words, "it is so now", () -> due("readyIn", Setups.inPhase(2, 3).readyIn(), 0));
        test(28, words, "in one tick", () -> {
            comesTrue("an empty table", Setups.inPhase(1, 0), 1);
            comesTrue("fewer rows than the lot", Setups.inPhase(1, 7), 1);
            comesTrue("one entry", Setups.chasingLog(1), 1);
            comesTrue("STEPS entries", Setups.chasingLog(3), 1);
        });
        test(28, words, "rows as many as the lot, at the end of the keys and before it", () -> {
            comesTrue("8 rows of 32 keys", Setups.inPhase(1, 8), 2);
            comesTrue("32 rows", Setups.inPhase(1, 32), 4);
            comesTrue("24 rows", Setups.inPhase(1, 24), 4);
        });
        test(28, words, "the phase is 2, the log is not empty", () -> {
            comesTrue("one more than STEPS", Setups.chasingLog(4), 2);
            comesTrue("a full log", Setups.chasingLog(24), 8);
        });
        test(28, words, "the log is empty, the phase is 1", () -> {
            Used x = Setups.withRows(6);
            x.begin(0, 2);
            comesTrue("three lots and a tick for the rest", x, 4);
        });
        test(28, words, "the phase is 2 before the log is empty", () -> {
            Used x = Setups.inPhase(1, 0);
            for (int put = 0; put < 9; put++) {
                x.put(31, put);
            }
            comesTrue("nine entries of a key", x, 3);
        });
        test(28, words, "a throttled copy", () -> {
            Used x = Setups.withLog(24);
            x.set(LAG, 0);
            comesTrue("8 ticks for the log, the last of them copies a row, too", x, 32);
        });
        test(28, words, "behind unlock and timeout", () -> {
            Used x = Setups.inPhase(3, 1);
            x.unlock();
            due("unlocked", x.readyIn(), 0);
            x.lock();
            x.tick(6);
            due("released", x.readyIn(), 0);
        });
    }

    private void promise28Slow() {
        test(28, "NONE if it is not so within 200 ticks", "the slowest copy of all is ready sooner", () -> {
            Used x = Setups.withRows(32);
            x.set(STEPS, 1);
            x.set(LAG, 0);
            x.begin(0, 1);
            for (int key = 0; key < 24; key++) {
                x.put(key, key);
            }
            comesTrue("24 entries and 32 rows", x, 55);
        });
        test(28, "Returns the number of ticks, from 0 to 200", "0, and many", () -> {
            due("ready", Setups.inPhase(2, 1).readyIn(), 0);
            due("a full log", Setups.withLog(24).readyIn(), 30);
        });
        test(28, "---- what would be; nothing is changed.", "readyIn", () -> {
            changesNothing("readyIn", () -> Setups.withLog(24), Used::readyIn, 30);
            changesNothing("readyIn", () -> Setups.inPhase(2, 1), Used::readyIn, 0);
        });
    }

    private void promise28Refused() {
        String words = "NOT_POSSIBLE if no copy is under way, or the phase is 3";
        test(28, words, "no copy", () -> {
            changesNothing("readyIn", () -> Setups.withRows(2), Used::readyIn, NOT_POSSIBLE);
            due("swapped", Setups.swapped(2).readyIn(), NOT_POSSIBLE);
            Used x = Setups.withLog(2);
            x.giveUp();
            due("given up", x.readyIn(), NOT_POSSIBLE);
        });
        test(28, words, "the phase is 3", () -> {
            changesNothing("readyIn", () -> Setups.lockedLog(3), Used::readyIn, NOT_POSSIBLE);
            changesNothing("readyIn with an empty log", () -> Setups.inPhase(3, 1), Used::readyIn, NOT_POSSIBLE);
        });
    }

    private void promise29() {
        String words = "Finds the least lot with which the phase would be 2 and the log empty within some ticks, "
            + "if nothing else is done.";
        test(29, words, "32 rows: just within, and not within", () -> {
            int[] ticks = {4, 5, 6, 7, 8, 10, 11, 15, 16, 31, 32, 99};
            int[] lots = {8, 7, 6, 5, 4, 4, 3, 3, 2, 2, 1, 1};
            for (int index = 0; index < ticks.length; index++) {
                due("leastLot " + ticks[index], Setups.inPhase(1, 32).leastLot(ticks[index]), lots[index]);
            }
        });
        test(29, words, "the copy's own lot is no matter", () -> {
            for (int lot = 1; lot < 9; lot++) {
                Used x = Setups.withRows(32);
                x.begin(0, lot);
                due("leastLot 8 with the lot " + lot, x.leastLot(8), 4);
                due("lot", x.copy(2), lot);
            }
        });
        test(29, words, "on the way", () -> {
            Used x = Setups.inPhase(1, 32);
            x.tick(3);
            due("one tick for eight rows", x.leastLot(1), 8);
            due("two ticks", x.leastLot(2), 4);
            due("eight ticks", x.leastLot(8), 1);
        });
        test(29, words, "the log is not empty within them", () -> {
            Used x = Setups.chasingLog(7);
            due("seven entries, two ticks", x.leastLot(2), NONE);
            due("seven entries, three ticks", x.leastLot(3), 1);
        });
        test(29, words, "it is so now", () -> {
            Used x = Setups.inPhase(2, 3);
            due("leastLot 1", x.leastLot(1), 1);
            due("leastLot 99", x.leastLot(99), 1);
        });
        test(29, words, "the most that a throttled copy can do", () -> {
            Used x = Setups.withLog(24);
            x.set(LAG, 0);
            due("leastLot 9", x.leastLot(9), NONE);
            due("leastLot 10", x.leastLot(10), NONE);
            due("leastLot 11", x.leastLot(11), 7);
            due("leastLot 31", x.leastLot(31), 2);
            due("leastLot 32", x.leastLot(32), 1);
        });
    }

    private void promise29Lots() {
        test(29, "Returns the lot, 1 to 8", "least and greatest", () -> {
            due("the least", Setups.inPhase(1, 0).leastLot(1), 1);
            due("seven rows", Setups.inPhase(1, 7).leastLot(1), 8);
            due("six rows", Setups.inPhase(1, 6).leastLot(1), 7);
        });
        test(29, "NONE if there is none", "more rows than the greatest lot", () -> {
            changesNothing("leastLot 1", () -> Setups.inPhase(1, 8), x -> x.leastLot(1), NONE);
            due("32 rows, three ticks", Setups.inPhase(1, 32).leastLot(3), NONE);
        });
        test(29, "NONE if there is none", "eight rows that end with the key 31", () -> {
            Used x = new Used();
            for (int key = 24; key < 32; key++) {
                x.put(key, 1);
            }
            x.begin(0, 1);
            due("leastLot 1", x.leastLot(1), 8);
        });
        test(29, "`ticks`: 1 to 99", "least and greatest", () -> {
            due("leastLot 1", Setups.inPhase(1, 3).leastLot(1), 4);
            due("leastLot 99", Setups.inPhase(1, 3).leastLot(99), 1);
        });
        test(29, "---- what would be; nothing is changed.", "leastLot", () -> {
            changesNothing("leastLot 1", () -> Setups.inPhase(1, 3), x -> x.leastLot(1), 4);
            changesNothing("leastLot 99", () -> Setups.inPhase(1, 3), x -> x.leastLot(99), 1);
        });
    }

    private void promise29Refused() {
        test(29, "BAD_VALUE if ticks is out of range", "too small and too large", () -> {
            for (int ticks : new int[] {0, -1, NONE, 100, Integer.MIN_VALUE, Integer.MAX_VALUE}) {
                changesNothing("leastLot " + ticks, () -> Setups.withLog(3), x -> x.leastLot(ticks), BAD_VALUE);
            }
        });
        test(29, "NOT_POSSIBLE as for readyIn", "no copy", () -> {
            changesNothing("leastLot", () -> Setups.withRows(2), x -> x.leastLot(1), NOT_POSSIBLE);
            due("swapped", Setups.swapped(2).leastLot(99), NOT_POSSIBLE);
        });
        test(29, "NOT_POSSIBLE as for readyIn", "the phase is 3", () -> {
            changesNothing("leastLot", () -> Setups.lockedLog(3), x -> x.leastLot(1), NOT_POSSIBLE);
            due("an empty log", Setups.inPhase(3, 1).leastLot(99), NOT_POSSIBLE);
        });
        test(29, "The error codes of a method are listed in the order in which they are checked", "leastLot", () -> {
            due("ticks, no copy", new Used().leastLot(0), BAD_VALUE);
            due("ticks, no copy", new Used().leastLot(100), BAD_VALUE);
            due("ticks, locked", Setups.inPhase(3, 1).leastLot(0), BAD_VALUE);
        });
    }

    private void promise30() {
        test(30, "0.0 if no copy is under way", "new, given up, swapped", () -> {
            dueDouble("new", new Used().progress(), 0.0);
            dueDouble("swapped", Setups.swapped(3).progress(), 0.0);
            Used x = Setups.inPhase(2, 3);
            x.giveUp();
            dueDouble("given up", x.progress(), 0.0);
        });
        test(30, "Returns the cursor as a double, divided by 32", "from 0 to 32", () -> {
            Used x = Setups.withRows(32);
            x.begin(0, 1);
            for (int cursor = 0; cursor <= 32; cursor++) {
                dueDouble("cursor " + cursor, x.progress(), cursor / 32.0);
                x.tick(1);
            }
        });
        test(30, "Returns the cursor as a double, divided by 32", "in the phases 2 and 3", () -> {
            dueDouble("chasing", Setups.chasingLog(9).progress(), 1.0);
            dueDouble("locked", Setups.lockedLog(9).progress(), 1.0);
        });
        test(30, "---- what would be; nothing is changed.", "progress", () ->
            changesNothing("progress", () -> Setups.inPhase(1, 9), x -> (int) (x.progress() * 32), 0));
        test(30, "Returns how far the copy is.", "a throttled copy stands", () -> {
            Used x = Setups.withLog(24);
            x.tick(1);
            dueDouble("throttled", x.progress(), 0.0);
        });
    }
}
