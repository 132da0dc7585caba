/**
 * Long runs of calls, good and bad ones, whose answers are compared with the model's; the same runs each time.
 * A run is as long as the document lets a table be used.
 */
public final class RandomRunsTest {
    private static final int RUNS = 6000;
    /** So many calls are left for looking at all at the end of a run. */
    private static final int CALLS_TO_COMPARE = 210;
    private static final int MOST_CALLS_TO_WRITE = 100;
    private static final int[] STRANGE = {-1, 32, 100, 127, -6, 1000, Integer.MIN_VALUE, Integer.MAX_VALUE, -5};

    private final Checks checks;
    private final int run;
    private final Used x = new Used();
    private final Model model = new Model();
    /** How many of 100 calls change rows, how many tick, and how many ask: it differs from run to run. */
    private final int changes;
    private final int ticks;
    private final int queries;
    private final int mostTicks;
    private long seed;

    private RandomRunsTest(Checks checks, int run) {
        this.checks = checks;
        this.run = run;
        this.seed = 7919L * run + 1;
        this.changes = 20 + below(50);
        this.ticks = 2 + below(20);
        this.queries = below(3) * 20;
        this.mostTicks = below(4) == 0 ? 99 : 1 + below(4);
    }

    public static void main(String[] args) {
        Checks checks = new Checks("RandomRunsTest");
        for (int run = 0; run < RUNS; run++) {
            checks.begin("run " + run);
            new RandomRunsTest(checks, run).go();
        }
        checks.end();
    }

    private void go() {
        // Some runs ask little, and show at their end what has become of the table.
        int callsAtTheEnd = run % 2 == 0 ? CALLS_TO_COMPARE : 1;
        while (x.callsLeft() > callsAtTheEnd + 10) {
            int kind = below(100);
            if (kind < changes) {
                changeRow();
            } else if (kind < changes + ticks) {
                int number = number(1, mostTicks);
                due("tick " + number, x.tick(number), model.tick(number));
            } else {
                otherCall(callsAtTheEnd);
            }
            if (below(100) < queries) {
                ask();
            }
        }
        if (callsAtTheEnd == CALLS_TO_COMPARE) {
            compareAll();
        }
    }

    private void changeRow() {
        int key = number(0, 31);
        if (below(4) == 0) {
            due("erase " + key, x.erase(key), model.erase(key));
        } else {
            int value = number(0, 99);
            due("put " + key + " " + value, x.put(key, value), model.put(key, value));
        }
    }

    private void otherCall(int callsAtTheEnd) {
        int first;
        int second;
        switch (below(16)) {
            case 0, 1, 2, 3:
                first = number(0, 4);
                second = number(1, 8);
                due("begin " + first + " " + second, x.begin(first, second), model.begin(first, second));
                break;
            case 4, 5:
                due("lock", x.lock(), model.lock());
                break;
            case 6:
                due("unlock", x.unlock(), model.unlock());
                break;
            case 7, 8:
                due("swap", x.swap(), model.swap());
                break;
            case 9:
                if (below(3) == 0) {
                    due("giveUp", x.giveUp(), model.giveUp());
                }
                break;
            case 10, 11:
                first = number(0, 3);
                second = number(0, new int[] {8, 24, 20, 1}[first & 3]);
                due("set " + first + " " + second, x.set(first, second), model.set(first, second));
                break;
            case 12:
                for (int times = below(7); times >= 0; times--) {
                    due("undo", x.undo(), model.undo());
                }
                break;
            case 13:
                due("save", x.save(), model.save());
                break;
            case 14:
                due("restore", x.restore(), model.restore());
                break;
            default:
                if (x.callsLeft() > callsAtTheEnd + MOST_CALLS_TO_WRITE) {
                    writeAndRun();
                }
        }
    }

    private void writeAndRun() {
        if (below(3) > 0) {
            due("clearText", x.clearText(), model.clearText());
        }
        String orders = "";
        for (int count = below(12); count >= 0; count--) {
            orders += order() + (count > 0 || below(12) == 0 ? "," : "");
        }
        if (below(3) == 0) {
            int place = below(orders.length() + 1);
            orders = orders.substring(0, place) + "0123456789=,pebtlusg x".charAt(below(22)) + orders.substring(place);
        }
        int length = Math.min(orders.length(), MOST_CALLS_TO_WRITE / 2 - 5);
        for (int index = 0; index < length; index++) {
            due("append", x.append(orders.charAt(index)), model.append(orders.charAt(index)));
            if (below(4) == 0) {
                due("fault", x.fault(), model.fault());
            }
        }
        int character = number(32, 126);
        if (below(10) == 0) {
            due("append " + character, x.append(character), model.append(character));
        }
        due("fault of " + orders, x.fault(), model.fault());
        due("run of " + orders, x.run(), model.run());
    }

    private String order() {
        switch (below(9)) {
            case 0, 1:
                return "p" + below(32) + "=" + below(100);
            case 2:
                return "e" + below(32);
            case 3:
                return "b" + below(5) + (1 + below(8));
            case 4:
                return "t";
            case 5:
                return "t" + (1 + below(below(2) == 0 ? 3 : 99));
            default:
                return "" + "lusslg".charAt(below(6));
        }
    }

    /** A number in these bounds mostly; sometimes one outside of them. */
    private int number(int least, int most) {
        int kind = below(40);
        if (kind == 0) {
            return STRANGE[below(STRANGE.length)];
        }
        if (kind == 1) {
            return below(2) == 0 ? least - 1 : most + 1;
        }
        return least + below(most - least + 1);
    }

    private int below(int bound) {
        seed = seed * 6364136223846793005L + 1442695040888963407L;
        return (int) ((seed >>> 33) % bound);
    }

    private void due(String what, long got, long want) {
        checks.due(what, got, want);
    }

    /** One query, with numbers from far and near. */
    private void ask() {
        int first = number(0, 4);
        int key = number(0, 31);
        int value = number(0, 99);
        switch (below(15)) {
            case 0:
                due("value " + first + " " + key, x.value(first, key), model.value(first, key));
                break;
            case 1:
                due("table " + first + " " + value % 6, x.table(first, value % 6), model.table(first, value % 6));
                break;
            case 2:
                due("copy " + first, x.copy(first), model.copy(first));
                break;
            case 3:
                due("entry " + key + " " + first, x.entry(key, first), model.entry(key, first));
                break;
            case 4:
                due("changed " + first + " " + key + " " + value, x.changed(first, key, value), model.changed(first, key, value));
                break;
            case 5:
                due("setting " + first, x.setting(first), model.setting(first));
                break;
            case 6, 7:
                due("total " + first * 2, x.total(first * 2), model.total(first * 2));
                break;
            case 8:
                due("leastLot " + value, x.leastLot(value), model.leastLot(value));
                break;
            case 9:
                due("leastLot " + value % 10, x.leastLot(value % 10), model.leastLot(value % 10));
                break;
            case 10:
                due("readyIn", x.readyIn(), model.readyIn());
                break;
            case 11:
                due("differences", x.differences(), model.differences());
                break;
            case 12:
                due("firstDifference", x.firstDifference(), model.firstDifference());
                break;
            case 13:
                due("states", x.states(), model.states());
                break;
            default:
                checks.dueDouble("progress", x.progress(), model.progress());
        }
    }

    /** All that there is to ask: 210 calls at most. */
    private void compareAll() {
        for (int table = 0; table < 3; table++) {
            for (int key = 0; key < 32; key++) {
                due("value " + table + " " + key, x.value(table, key), model.value(table, key));
            }
            for (int what = 0; what < 4; what++) {
                due("table " + table + " " + what, x.table(table, what), model.table(table, what));
            }
        }
        for (int entry = 0; entry < 25; entry++) {
            due("entry key " + entry, x.entry(entry, 0), model.entry(entry, 0));
            due("entry value " + entry, x.entry(entry, 1), model.entry(entry, 1));
        }
        for (int what = 0; what < 9; what++) {
            due("total " + what, x.total(what), model.total(what));
            due("copy " + what, x.copy(what), model.copy(what));
            due("setting " + what, x.setting(what), model.setting(what));
            due("leastLot " + what, x.leastLot(what), model.leastLot(what));
        }
        due("differences", x.differences(), model.differences());
        due("firstDifference", x.firstDifference(), model.firstDifference());
        due("readyIn", x.readyIn(), model.readyIn());
        due("states", x.states(), model.states());
        due("fault", x.fault(), model.fault());
        checks.dueDouble("progress", x.progress(), model.progress());
    }
}
