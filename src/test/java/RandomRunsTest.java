/** Long runs of calls, good and bad ones, whose answers are compared with the model's; the same runs each time. */
public final class RandomRunsTest {
    private static final int RUNS = 400;
    private static final int CALLS = 512;
    private static final int[] STRANGE = {-1, 32, 100, 127, -6, 1000, Integer.MIN_VALUE, Integer.MAX_VALUE, -5};

    private final Checks checks;
    private final int run;
    private final ShadowTable x = new ShadowTable();
    private final Model model = new Model();
    /** How many of 100 calls change rows, and how many tick: it differs from run to run. */
    private final int changes;
    private final int ticks;
    private final int mostTicks;
    private long seed;
    private String call = "";

    private RandomRunsTest(Checks checks, int run) {
        this.checks = checks;
        this.run = run;
        this.seed = 7919L * run + 1;
        this.changes = 20 + below(50);
        this.ticks = 2 + below(20);
        this.mostTicks = below(4) == 0 ? 99 : 1 + below(4);
    }

    public static void main(String[] args) {
        Checks checks = new Checks("RandomRunsTest");
        for (int run = 0; run < RUNS; run++) {
            new RandomRunsTest(checks, run).go();
        }
        checks.end();
    }

    private void go() {
        for (int made = 0; made < CALLS; made++) {
            int kind = below(100);
            if (kind < changes) {
                changeRow();
            } else if (kind < changes + ticks) {
                int number = number(1, mostTicks);
                due("tick " + number, x.tick(number), model.tick(number));
            } else {
                otherCall();
            }
            compareSome();
            if (below(8) == 0) {
                compareAll();
            }
        }
        compareAll();
    }

    private void changeRow() {
        int key = number(0, 31);
        if (below(4) == 0) {
            due("erase " + key, x.erase(key), model.erase(key));
        } else {
            int value = number(0, 99);
            due("put " + key + " " + value, x.put(key, value), model.put(key, value));
        }
    }

    private void otherCall() {
        int first;
        int second;
        switch (below(16)) {
            case 0, 1, 2, 3:
                first = number(0, 4);
                second = number(1, 8);
                due("begin " + first + " " + second, x.begin(first, second), model.begin(first, second));
                break;
            case 4, 5:
                due("lock", x.lock(), model.lock());
                break;
            case 6:
                due("unlock", x.unlock(), model.unlock());
                break;
            case 7, 8:
                due("swap", x.swap(), model.swap());
                break;
            case 9:
                if (below(3) == 0) {
                    due("giveUp", x.giveUp(), model.giveUp());
                }
                break;
            case 10, 11:
                first = number(0, 3);
                second = number(0, new int[] {8, 24, 20, 1}[first & 3]);
                due("set " + first + " " + second, x.set(first, second), model.set(first, second));
                break;
            case 12:
                for (int times = below(7); times >= 0; times--) {
                    due("undo", x.undo(), model.undo());
                }
                break;
            case 13:
                due("save", x.save(), model.save());
                break;
            case 14:
                due("restore", x.restore(), model.restore());
                break;
            default:
                writeAndRun();
        }
    }

    private void writeAndRun() {
        if (below(3) > 0) {
            due("clearText", x.clearText(), model.clearText());
        }
        String orders = "";
        for (int count = below(12); count >= 0; count--) {
            orders += order() + (count > 0 || below(12) == 0 ? "," : "");
        }
        if (below(3) == 0) {
            int place = below(orders.length() + 1);
            orders = orders.substring(0, place) + "0123456789=,pebtlusg x".charAt(below(22)) + orders.substring(place);
        }
        for (int index = 0; index < orders.length(); index++) {
            due("append", x.append(orders.charAt(index)), model.append(orders.charAt(index)));
            due("fault", x.fault(), model.fault());
        }
        int character = number(32, 126);
        if (below(10) == 0) {
            due("append " + character, x.append(character), model.append(character));
        }
        due("fault of " + orders, x.fault(), model.fault());
        due("run of " + orders, x.run(), model.run());
    }

    private String order() {
        switch (below(9)) {
            case 0, 1:
                return "p" + below(32) + "=" + below(100);
            case 2:
                return "e" + below(32);
            case 3:
                return "b" + below(5) + (1 + below(8));
            case 4:
                return "t";
            case 5:
                return "t" + (1 + below(below(2) == 0 ? 3 : 99));
            default:
                return "" + "lusslg".charAt(below(6));
        }
    }

    /** A number in these bounds mostly; sometimes one outside of them. */
    private int number(int least, int most) {
        int kind = below(40);
        if (kind == 0) {
            return STRANGE[below(STRANGE.length)];
        }
        if (kind == 1) {
            return below(2) == 0 ? least - 1 : most + 1;
        }
        return least + below(most - least + 1);
    }

    private int below(int bound) {
        seed = seed * 6364136223846793005L + 1442695040888963407L;
        return (int) ((seed >>> 33) % bound);
    }

    private void due(String what, long got, long want) {
        call = what;
        checks.due("run " + run + ": " + what, got, want);
    }

    private void compare(String what, long got, long want) {
        checks.due("run " + run + ": behind " + call + ": " + what, got, want);
    }

    /** Queries with numbers from far and near. */
    private void compareSome() {
        int first = number(0, 4);
        int key = number(0, 31);
        int value = number(0, 99);
        compare("value", x.value(first, key), model.value(first, key));
        compare("table", x.table(first, value % 6), model.table(first, value % 6));
        compare("copy", x.copy(first), model.copy(first));
        compare("entry", x.entry(key, first), model.entry(key, first));
        compare("changed", x.changed(first, key, value), model.changed(first, key, value));
        compare("setting", x.setting(first), model.setting(first));
        compare("total", x.total(first * 2), model.total(first * 2));
        compare("leastLot", x.leastLot(value), model.leastLot(value));
    }

    private void compareAll() {
        for (int table = 0; table < 3; table++) {
            for (int key = 0; key < 32; key++) {
                compare("value " + table + " " + key, x.value(table, key), model.value(table, key));
            }
            for (int what = 0; what < 4; what++) {
                compare("table " + table + " " + what, x.table(table, what), model.table(table, what));
            }
        }
        for (int entry = 0; entry < 25; entry++) {
            compare("entry key " + entry, x.entry(entry, 0), model.entry(entry, 0));
            compare("entry value " + entry, x.entry(entry, 1), model.entry(entry, 1));
        }
        for (int what = 0; what < 8; what++) {
            compare("total " + what, x.total(what), model.total(what));
            compare("copy " + what, x.copy(what), model.copy(what));
            compare("setting " + what, x.setting(what), model.setting(what));
            compare("leastLot " + what, x.leastLot(what), model.leastLot(what));
        }
        compare("differences", x.differences(), model.differences());
        compare("firstDifference", x.firstDifference(), model.firstDifference());
        compare("readyIn", x.readyIn(), model.readyIn());
        compare("states", x.states(), model.states());
        compare("fault", x.fault(), model.fault());
        checks.dueDouble("run " + run + ": progress", x.progress(), model.progress());
    }
}
