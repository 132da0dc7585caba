/** Promises 11 to 14: the text, its fault, and what its orders do. */
public final class TextTest {
    private static final Checks CHECKS = new Checks("TextTest");

    public static void main(String[] args) {
        promise11Append();
        promise12ClearText();
        promise13Fault();
        promise13FaultOfNumbers();
        promise14Run();
        promise14RunStops();
        promise14RunIsOneAction();
        promise14RunRefuses();
        CHECKS.end();
    }

    private static void promise11Append() {
        ShadowTable x = new ShadowTable();
        int[] bad = {31, 127, -1, 0, Integer.MIN_VALUE, Integer.MAX_VALUE};
        for (int character : bad) {
            CHECKS.unchanged("append " + character, x, () -> x.append(character), ShadowTable.BAD_VALUE);
        }
        CHECKS.due("append 32", x.append(32), 1);
        CHECKS.due("append 126", x.append(126), 2);
        for (int length = 3; length <= 80; length++) {
            CHECKS.due("append", x.append('t'), length);
        }
        CHECKS.unchanged("the 81st", x, () -> x.append('t'), ShadowTable.TOO_MANY);
        CHECKS.unchanged("the 81st, wrongly", x, () -> x.append(31), ShadowTable.BAD_VALUE);
        CHECKS.due("the length stays", x.clearText(), 80);
        CHECKS.due("append is no action", x.states(), 0);
    }

    private static void promise12ClearText() {
        ShadowTable x = Setups.withText("t,t");
        CHECKS.due("clearText", x.clearText(), 3);
        CHECKS.due("again", x.clearText(), 0);
        CHECKS.due("fault", x.fault(), 0);
        CHECKS.due("append", x.append('u'), 1);
        CHECKS.due("fault", x.fault(), ShadowTable.NONE);
        CHECKS.due("clearText is no action", x.states(), 0);
    }

    private static void dueFault(String text, int fault) {
        ShadowTable x = Setups.withText(text);
        CHECKS.unchanged("fault of '" + text + "'", x, x::fault, fault);
    }

    private static void promise13Fault() {
        String[] complete = {
            "p0=0", "p31=99", "p9=10", "e0", "e31", "b01", "b48", "t", "t1", "t99", "l", "u", "s", "g",
            "p1=2,e3,b41,t,t5,l,u,s,g", "t,t", "t9,t10",
        };
        for (String text : complete) {
            dueFault(text, ShadowTable.NONE);
        }
        String[] incomplete = {"", "p", "p1", "p31", "p1=", "e", "b", "b0", "t,", "p1=2,", "l,p3", "g,b4", "u,e"};
        for (String text : incomplete) {
            dueFault(text, text.length());
        }
        String[] faultAtTheEnd = {
            "x", ",", " ", "0", "P", "t ", "p,", "p=", "p1,", "p1 ", "p1=,", "p1=x", "e,", "e ", "bx", "b5", "b9",
            "b00", "b09", "b0,", "b011", "t,,", "tt", "ll", "l1", "u1", "s1", "g1", "g,x", "e1=", "t=", "l,l,l,u,s,g1",
        };
        for (String text : faultAtTheEnd) {
            dueFault(text, text.length() - 1);
            dueFault(text + "t", text.length() - 1);
            dueFault(text + ",t", text.length() - 1);
        }
        StringBuilder full = new StringBuilder("tt");
        for (int index = 2; index < 80; index++) {
            full.append('t');
        }
        dueFault(full.toString(), 1);
        StringBuilder orders = new StringBuilder("t1");
        while (orders.length() < 80) {
            orders.append(",l");
        }
        dueFault(orders.toString(), ShadowTable.NONE);
        orders.setCharAt(79, ',');
        dueFault(orders.toString(), 79);
        orders.setCharAt(79, 'p');
        dueFault(orders.toString(), 80);
    }

    /** Each number, with one and with two digits, behind each letter that takes it. */
    private static void promise13FaultOfNumbers() {
        for (int number = 0; number < 100; number++) {
            String text = Integer.toString(number);
            dueFault("p" + text + "=0", number <= 31 ? ShadowTable.NONE : 2);
            dueFault("e" + text, number <= 31 ? ShadowTable.NONE : 2);
            dueFault("p0=" + text, ShadowTable.NONE);
            dueFault("t" + text, number == 0 ? 1 : ShadowTable.NONE);
            dueFault("p" + text + "1=0", number == 0 ? 2 : number <= 3 ? ShadowTable.NONE : number <= 31 && number > 9 ? 3 : 2);
            dueFault("p0=" + text + "0", number == 0 ? 4 : number <= 9 ? ShadowTable.NONE : 5);
            dueFault("t" + text + "0", number == 0 ? 1 : number <= 9 ? ShadowTable.NONE : 3);
        }
        for (int digit = 0; digit < 10; digit++) {
            dueFault("e0" + digit, 2);
            dueFault("p0" + digit, 2);
            dueFault("t0" + digit, 1);
            dueFault("p1=0" + digit, 4);
            dueFault("b" + digit + "8", digit <= 4 ? ShadowTable.NONE : 1);
            dueFault("b0" + digit, digit >= 1 && digit <= 8 ? ShadowTable.NONE : 2);
        }
    }

    private static void promise14Run() {
        ShadowTable x = Setups.withText("p3=7,p31=99,b13,t,e3,t2,l,s");
        CHECKS.due("run", x.run(), 8);
        CHECKS.due("the live table", x.value(0, 31), 98);
        CHECKS.due("the erased row", x.value(0, 3), ShadowTable.NONE);
        CHECKS.due("the old table", x.value(2, 31), 99);
        CHECKS.due("ticks", x.total(7), 3);
        CHECKS.due("swaps", x.total(1), 1);
        CHECKS.due("the text does not change", x.clearText(), 27);
        Setups.write(x, "b28,t12,l,u,g");
        CHECKS.due("run", x.run(), 5);
        CHECKS.due("copies begun", x.total(0), 2);
        CHECKS.due("copies given up", x.total(2), 1);
        CHECKS.due("ticks", x.total(7), 15);
        Setups.write(x, "e9,e9");
        CHECKS.due("NONE is no error", x.run(), 2);
        Setups.write(x, "p1=1,b42,t,l");
        CHECKS.due("run", x.run(), 4);
        CHECKS.due("the kind", x.copy(1), 4);
        CHECKS.due("the lot", x.copy(2), 2);
        CHECKS.due("the age", x.copy(5), 0);
        Setups.write(x, "t3");
        CHECKS.due("run", x.run(), 1);
        CHECKS.due("the age", x.copy(5), 3);
    }

    private static void promise14RunStops() {
        ShadowTable x = Setups.withText("l,p0=1");
        CHECKS.due("the first order is refused", x.run(), 0);
        CHECKS.due("nothing behind it is done", x.value(0, 0), ShadowTable.NONE);
        CHECKS.due("this is an action, too", x.states(), 1);
        CHECKS.due("undo", x.undo(), 0);
        String[] texts = {"p0=1,l", "p0=1,u", "p0=1,s", "p0=1,g", "b01,b01", "t,l,t", "b01,t,l,p0=0", "b01,t,l,e0"};
        int[] done = {1, 1, 1, 1, 1, 1, 3, 3};
        for (int index = 0; index < texts.length; index++) {
            CHECKS.due("run of " + texts[index], Setups.withText(texts[index]).run(), done[index]);
        }
        ShadowTable full = Setups.withLog(24);
        Setups.write(full, "e31,p31=5,g");
        full.set(ShadowTable.STRICT, 1);
        CHECKS.due("TOO_MANY stops", full.run(), 1);
        full.set(ShadowTable.STRICT, 0);
        CHECKS.due("giveUp is not possible behind the put", full.run(), 2);
        CHECKS.due("the value", full.value(0, 31), 5);
    }

    private static void promise14RunIsOneAction() {
        ShadowTable x = Setups.withText("p0=1,p1=2,t,t");
        x.put(9, 9);
        String before = Picture.of(x);
        CHECKS.due("run", x.run(), 4);
        CHECKS.due("states", x.states(), 2);
        CHECKS.due("undo", x.undo(), 1);
        CHECKS.dueText("all of it is undone", Picture.of(x), before);
        CHECKS.due("the text is there still", x.run(), 4);
    }

    private static void promise14RunRefuses() {
        String[] texts = {"", "p0=1,", "p0=1,x", "t,b", "p32=0", "p0=1 "};
        int[] answers = {-100, -105, -105, -103, -102, -104};
        for (int index = 0; index < texts.length; index++) {
            ShadowTable x = Setups.withText(texts[index]);
            CHECKS.unchanged("run of '" + texts[index] + "'", x, x::run, answers[index]);
        }
        ShadowTable long80 = new ShadowTable();
        for (int length = 0; length < 40; length++) {
            long80.append('t');
            long80.append(',');
        }
        CHECKS.unchanged("run of 80 characters", long80, long80::run, -180);
    }
}
