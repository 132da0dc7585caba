/** Promise 14: the orders of the text. */
public final class RunTest extends Sentences {
    public static void main(String[] arguments) {
        new RunTest().runAll();
    }

    @Override
    void tell() {
        promise14();
        promise14Orders();
        promise14Stops();
        promise14StopsBecauseOfTheLog();
        promise14OneAction();
        promise14Refused();
    }

    private void promise14() {
        test(14, "Carries out the orders of the text, one after the other, as the methods do", "a whole copy", () -> {
            Used x = Setups.withText("p3=7,p31=99,b13,t,e3,t2,l,s");
            due("run", x.run(), 8);
            due("live", x.value(LIVE, 31), 98);
            due("the erased row", x.value(LIVE, 3), NONE);
            due("old", x.value(OLD, 31), 99);
            due("ticks", x.total(7), 3);
            due("swaps", x.total(1), 1);
        });
        test(14, "The text does not change.", "run again", () -> {
            Used x = Setups.withText("e0,p0=1");
            due("run", x.run(), 2);
            due("run again", x.run(), 2);
            due("fault", x.fault(), NONE);
            due("clearText", x.clearText(), 7);
        });
        test(14, "Returns the number of orders that are carried out", "one order, and as many as there is room for", () -> {
            due("one order", Setups.withText("t").run(), 1);
            Used x = Setups.withText("t,".repeat(39) + "t");
            due("40 orders", x.run(), 40);
            due("ticks", x.total(7), 40);
            Used full = Setups.withText("t,".repeat(39) + "t9");
            due("40 orders, 80 characters", full.run(), 40);
            due("ticks", full.total(7), 48);
        });
        test(14, "Carries out the orders of the text", "the longest ticks", () -> {
            Used x = Setups.withText("t99,".repeat(19) + "t99");
            due("run", x.run(), 20);
            due("ticks", x.total(7), 20 * 99);
        });
        test(14, "Carries out the orders of the text", "the text is another one now", () -> {
            Used x = Setups.withText("p0=11,p1=22,p2=33");
            x.run();
            x.clearText();
            Setups.write(x, "e1");
            due("run", x.run(), 1);
            dueValues("live", x, LIVE, 11, NONE, 33);
        });
    }

    private void promise14Orders() {
        test(14, "The orders mean: p put", "least and greatest key and value", () -> {
            Used x = Setups.withText("p0=0,p31=99,p9=10,p10=9");
            due("run", x.run(), 4);
            due("value 0", x.value(LIVE, 0), 0);
            due("value 31", x.value(LIVE, 31), 99);
            due("value 9", x.value(LIVE, 9), 10);
            due("value 10", x.value(LIVE, 10), 9);
        });
        test(14, "e erase", "least and greatest key", () -> {
            Used x = Setups.withRows(32);
            Setups.write(x, "e0,e31");
            due("run", x.run(), 2);
            due("rows", x.table(LIVE, 0), 30);
            due("value 0", x.value(LIVE, 0), NONE);
            due("value 31", x.value(LIVE, 31), NONE);
        });
        test(14, "b begin (a copy)", "least and greatest kind and lot", () -> {
            Used least = Setups.withText("b01");
            least.run();
            dueCopy("b01", least, 1, 0, 1, 0, 0, NONE);
            Used most = Setups.withText("b48");
            most.run();
            dueCopy("b48", most, 1, 4, 8, 0, 0, NONE);
        });
        test(14, "t tick (so many; 1 without a number)", "none, least and greatest number", () -> {
            String[] texts = {"t", "t1", "t2", "t10", "t99", "t,t5,t"};
            int[] ticks = {1, 1, 2, 10, 99, 7};
            for (int index = 0; index < texts.length; index++) {
                Used x = Setups.withText(texts[index]);
                x.run();
                due("ticks of " + texts[index], x.total(7), ticks[index]);
            }
        });
        test(14, "l lock, u unlock, s swap, g giveUp", "each of them", () -> {
            Used lock = Setups.inPhase(2, 1);
            Setups.write(lock, "l");
            due("l", lock.run(), 1);
            due("phase", lock.copy(0), 3);
            Used unlock = Setups.inPhase(3, 1);
            Setups.write(unlock, "u");
            due("u", unlock.run(), 1);
            due("phase", unlock.copy(0), 2);
            Used swap = Setups.inPhase(3, 1);
            Setups.write(swap, "s");
            due("s", swap.run(), 1);
            due("swaps", swap.total(1), 1);
            Used giveUp = Setups.inPhase(3, 1);
            Setups.write(giveUp, "g");
            due("g", giveUp.run(), 1);
            due("copies given up", giveUp.total(2), 1);
        });
    }

    /** The run of this text on a table in a phase carries out so many orders. */
    private void dueOrders(int phase, String text, int orders) {
        Used x = Setups.inPhase(phase, 2);
        Setups.write(x, text);
        due("run of " + text + " in the phase " + phase, x.run(), orders);
    }

    private void promise14Stops() {
        String words = "up to the first one for which the method would return an error code";
        test(14, words, "each order that is not possible, with others behind it", () -> {
            dueOrders(0, "t,l,t", 1);
            dueOrders(0, "t,u,t", 1);
            dueOrders(0, "t,s,t", 1);
            dueOrders(0, "t,g,t", 1);
            dueOrders(1, "t99,b01,t", 1);
            dueOrders(3, "t,p0=0,t", 1);
            dueOrders(3, "t,e0,t", 1);
            dueOrders(3, "t,e9,t", 1);
            dueOrders(3, "t,l,t", 1);
        });
        test(14, words, "nothing of the orders behind it is carried out", () -> {
            Used x = Setups.withText("p0=1,l,p0=2,b01,t");
            due("run", x.run(), 1);
            due("value", x.value(LIVE, 0), 1);
            due("phase", x.copy(0), 0);
            due("ticks", x.total(7), 0);
            due("the text stays", x.clearText(), 17);
        });
        test(14, words, "what was carried out before it stays", () -> {
            Used x = Setups.withText("p0=1,p1=2,s");
            due("run", x.run(), 2);
            dueValues("live", x, LIVE, 1, 2, NONE);
        });
        test(14, words, "the last order", () -> dueOrders(0, "t,t,s", 2));
        test(14, "NONE is not an error code.", "orders that answer NONE", () -> {
            Used x = Setups.withText("e9,p9=1,e9,e9");
            due("run", x.run(), 4);
            due("rows", x.table(LIVE, 0), 0);
        });
    }

    private void promise14StopsBecauseOfTheLog() {
        String words = "up to the first one for which the method would return an error code";
        test(14, words, "TOO_MANY", () -> {
            Used x = Setups.withLog(24);
            x.set(STRICT, 1);
            Setups.write(x, "e31,p31=5,t");
            due("run", x.run(), 1);
            due("entries", x.copy(4), 24);
            due("ticks", x.total(7), 0);
        });
        test(14, words, "a copy that is given up because of the log is no error", () -> {
            Used x = Setups.withLog(24);
            Setups.write(x, "e31,p31=5,g,t");
            due("run", x.run(), 2);
            due("value", x.value(LIVE, 31), 5);
            due("copies given up", x.total(2), 1);
        });
    }

    private void promise14OneAction() {
        test(14, "This is one action, even if no order is carried out.", "many orders", () ->
            isRecorded("run", () -> Setups.withText("p0=1,p1=2,b12,t,t,l,s"), Used::run));
        test(14, "This is one action, even if no order is carried out.", "no order", () -> {
            Used x = Setups.withText("l,p0=1");
            due("run", x.run(), 0);
            due("states", x.states(), 1);
            due("undo", x.undo(), 0);
            isRecorded("run without an order", () -> Setups.withText("l,p0=1"), Used::run);
        });
        test(14, "This is one action, even if no order is carried out.", "only one state is dropped", () -> {
            Used x = new Used();
            for (int value = 0; value < 5; value++) {
                x.put(0, value);
            }
            Setups.write(x, "p1=1,p2=2,p3=3,t,t,t");
            due("run", x.run(), 6);
            due("states", x.states(), 5);
            for (int left = 4; left >= 0; left--) {
                due("undo", x.undo(), left);
                due("value", x.value(LIVE, 0), left);
            }
            due("undo", x.undo(), NONE);
        });
        test(14, "The text does not change.", "by its undo neither", () -> {
            Used x = Setups.withText("p0=1,t");
            x.run();
            x.undo();
            due("fault", x.fault(), NONE);
            due("run", x.run(), 2);
        });
    }

    private void promise14Refused() {
        String words = "-100 minus the fault (an error code) if the text is not a complete script";
        test(14, words, "the empty text", () -> changesNothing("run", () -> Setups.withRows(2), Used::run, -100));
        test(14, words, "an empty text behind clearText", () -> changesNothing("run", () -> {
            Used x = Setups.withText("t");
            x.clearText();
            return x;
        }, Used::run, -100));
        test(14, words, "an incomplete script, and no script: no order is carried out", () -> {
            String[] texts = {"p0=1,", "p0=1,x", "t,b", "p32=0", "p0=1 ", "x", "p0=1,p"};
            int[] answers = {-105, -105, -103, -102, -104, -100, -106};
            for (int index = 0; index < texts.length; index++) {
                String text = texts[index];
                changesNothing("run of '" + text + "'", () -> Setups.withText(text), Used::run, answers[index]);
            }
        });
        test(14, words, "80 characters", () -> {
            changesNothing("run", () -> Setups.withText("t,".repeat(40)), Used::run, -180);
            changesNothing("run", () -> Setups.withText("t,".repeat(39) + "tt"), Used::run, -179);
        });
        test(14, words, "under a lock, and without a copy, it is the text alone that counts", () ->
            changesNothing("run", () -> {
                Used x = Setups.inPhase(3, 2);
                Setups.write(x, "u,");
                return x;
            }, Used::run, -102));
    }
}
