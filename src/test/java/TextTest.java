/** Promises 11 to 13: the text and its fault. */
public final class TextTest extends Sentences {
    public static void main(String[] arguments) {
        new TextTest().runAll();
    }

    @Override
    void tell() {
        promise11();
        promise12();
        promise13();
        promise13Incomplete();
        promise13NoScript();
        promise13Numbers();
        promise13Full();
    }

    /** t, l, u, .. with commas between them, of so many characters. */
    private static String orders(int length) {
        StringBuilder text = new StringBuilder();
        while (text.length() < length) {
            text.append(text.length() % 2 == 1 ? ',' : "tlusg".charAt(text.length() / 2 % 5));
        }
        return text.toString();
    }

    private void promise11() {
        test(11, "`character`: 32 to 126", "least and greatest", () -> {
            Used x = new Used();
            due("append 32", x.append(32), 1);
            due("append 126", x.append(126), 2);
            due("fault", x.fault(), 0);
        });
        test(11, "BAD_VALUE if character is out of range", "too small and too large", () -> {
            for (int character : new int[] {31, 127, 0, -1, NONE, 256 + 't', Integer.MIN_VALUE, Integer.MAX_VALUE}) {
                changesNothing("append " + character, () -> Setups.withText("t"), x -> x.append(character), BAD_VALUE);
            }
        });
        test(11, "Returns the length of the text", "from 1 to 80", () -> {
            Used x = new Used();
            for (int length = 1; length <= 80; length++) {
                due("append", x.append('t'), length);
            }
        });
        test(11, "TOO_MANY if the text has 80 characters", "the 81st", () ->
            changesNothing("append", () -> Setups.withText(orders(80)), x -> x.append('t'), TOO_MANY));
        test(11, "There is a text of at most 80 characters (empty at first).", "the 80th finds room, the 81st does not", () -> {
            Used x = Setups.withText(orders(78));
            due("the 79th", x.append('t'), 79);
            due("the 80th", x.append(','), 80);
            due("the 81st", x.append('t'), TOO_MANY);
            due("the fault of the 80", x.fault(), 80);
        });
        test(11, "The error codes of a method are listed in the order in which they are checked", "append", () -> {
            Used x = Setups.withText(orders(80));
            due("character and room, too small", x.append(31), BAD_VALUE);
            due("character and room, too large", x.append(127), BAD_VALUE);
            due("room", x.append(126), TOO_MANY);
        });
        test(11, "Appends a character to the text.", "at its end, and it is no action", () -> {
            Used x = Setups.withText("p1=");
            due("append", x.append('7'), 4);
            due("states", x.states(), 0);
            due("run", x.run(), 1);
            due("value", x.value(LIVE, 1), 7);
        });
    }

    private void promise12() {
        test(12, "Empties the text.", "a script, and a full text", () -> {
            for (int length : new int[] {1, 5, 80}) {
                Used x = Setups.withText(orders(length));
                due("clearText", x.clearText(), length);
                due("fault", x.fault(), 0);
                due("run", x.run(), -100);
            }
        });
        test(12, "Returns the length that the text had.", "it is empty already", () -> {
            changesNothing("clearText", Used::new, Used::clearText, 0);
            Used x = Setups.withText("t");
            due("clearText", x.clearText(), 1);
            due("clearText again", x.clearText(), 0);
        });
        test(12, "Empties the text.", "there is room for 80 again", () -> {
            Used x = Setups.withText(orders(80));
            x.clearText();
            for (int length = 1; length <= 80; length++) {
                due("append", x.append('l'), length);
            }
            due("the 81st", x.append('l'), TOO_MANY);
        });
        test(12, "Empties the text.", "it is no action", () -> {
            Used x = Setups.withText("t");
            x.clearText();
            due("states", x.states(), 0);
        });
    }

    private void dueFault(String text, int fault) {
        due("fault of '" + text + "'", Setups.withText(text).fault(), fault);
    }

    private void promise13() {
        test(13, "NONE if the text is a complete script", "each order alone", () -> {
            for (String order : new String[] {"p0=0", "p31=99", "e0", "e31", "b01", "b48", "t", "t1", "t99", "l", "u", "s", "g"}) {
                dueFault(order, NONE);
            }
        });
        test(13, "script = order { \",\" order }", "two orders, many orders, a comma without an order", () -> {
            for (String text : new String[] {"t,t", "t9,t10", "p1=2,e3,b41,t,t5,l,u,s,g"}) {
                dueFault(text, NONE);
            }
            dueFault(",", 0);
            dueFault(",t", 0);
            dueFault("t,,t", 2);
            dueFault("t,", 2);
            dueFault("tt", 1);
            dueFault("t;t", 1);
        });
        test(13, "order = \"p\" key \"=\" value | \"e\" key | \"b\" kind lot | \"t\" [ ticks ] | \"l\" | \"u\" | \"s\" | \"g\"",
            "each character as the first one", () -> {
            for (int character = 32; character < 127; character++) {
                int due = "tlusg".indexOf(character) >= 0 ? NONE : "peb".indexOf(character) >= 0 ? 1 : 0;
                dueFault("" + (char) character, due);
                dueFault("l," + (char) character, due == NONE ? NONE : due + 2);
            }
        });
        test(13, "\"t\" [ ticks ]", "each character behind t", () -> {
            for (int character = 32; character < 127; character++) {
                boolean isTicks = character >= '1' && character <= '9';
                dueFault("t" + (char) character, isTicks ? NONE : character == ',' ? 2 : 1);
            }
        });
        test(13, "The fault of the text is the index of the first character such that no script, of any length, "
            + "begins with the characters up to and including it.", "what stands behind it is no matter", () -> {
            for (String behind : new String[] {"", "t", ",t", "x", "=5"}) {
                dueFault("px" + behind, 1);
                dueFault("t,e3,q" + behind, 5);
                dueFault("p3=7;" + behind, 4);
            }
        });
        test(13, "Returns the fault", "it changes nothing", () -> {
            changesNothing("fault of a script", () -> Setups.withText("p1=1,t"), Used::fault, NONE);
            changesNothing("fault of the empty text", Used::new, Used::fault, 0);
            changesNothing("fault of no script", () -> Setups.withText("p1=1,x"), Used::fault, 5);
        });
    }

    private void promise13Incomplete() {
        String words = "If there is no such character, but the text is not a complete script (as the empty text), "
            + "the fault is the length of the text.";
        test(13, words, "the empty text", () -> dueFault("", 0));
        test(13, words, "an order that is not ended", () -> {
            for (String text : new String[] {"p", "p1", "p31", "p1=", "p31=", "e", "b", "b0", "b4"}) {
                dueFault(text, text.length());
                dueFault("g," + text, text.length() + 2);
            }
        });
        test(13, words, "a comma at the end", () -> {
            for (String text : new String[] {"t,", "t9,", "p1=2,", "e0,", "b01,", "l,u,s,g,"}) {
                dueFault(text, text.length());
            }
        });
    }

    private void promise13NoScript() {
        String words = "begins with the characters up to and including it";
        test(13, words, "a wrong character ends each order", () -> {
            for (String text : new String[] {
                "p,", "p=", "px", "p1,", "p1 ", "p1x", "p1=,", "p1=x", "p1==", "p1=2=", "p1=2x", "e,", "e ", "e=", "e1=",
                "b,", "bx", "b0,", "b0x", "b011", "b01x", "tx", "t=", "t1x", "ll", "l1", "u1", "s1", "g1", "lp", "l "}) {
                dueFault(text, text.length() - 1);
                dueFault(text + "t", text.length() - 1);
                dueFault("u," + text + ",t", text.length() + 1);
            }
        });
        test(13, words, "great letters and signs", () -> {
            for (String text : new String[] {"P", "E", "T", " t", "-", "+", "~", "!"}) {
                dueFault(text, 0);
            }
            dueFault("p-1=0", 1);
            dueFault("p1=-1", 3);
            dueFault("t+1", 1);
        });
    }

    private void promise13Numbers() {
        String words = "A key is a number from 0 to 31, a value a number from 0 to 99, ticks a number from 1 to 99, "
            + "all without leading zeros; a kind is a digit from 0 to 4, a lot a digit from 1 to 8.";
        test(13, words, "each key of one and two digits", () -> {
            for (int key = 0; key < 100; key++) {
                dueFault("e" + key, key < 32 ? NONE : 2);
                dueFault("p" + key + "=0", key < 32 ? NONE : 2);
            }
        });
        test(13, words, "a key of three digits", () -> {
            for (String key : new String[] {"100", "310", "319", "111", "299"}) {
                dueFault("e" + key, 3);
                dueFault("p" + key + "=0", 3);
            }
            dueFault("e320", 2);
        });
        test(13, words, "each value, and three digits", () -> {
            for (int value = 0; value < 100; value++) {
                dueFault("p0=" + value, NONE);
            }
            for (String value : new String[] {"100", "990", "999", "123"}) {
                dueFault("p0=" + value, 5);
            }
        });
        test(13, words, "each number of ticks, and three digits", () -> {
            for (int ticks = 0; ticks < 100; ticks++) {
                dueFault("t" + ticks, ticks > 0 ? NONE : 1);
            }
            for (String ticks : new String[] {"100", "990", "999", "123"}) {
                dueFault("t" + ticks, 3);
            }
        });
        test(13, words, "leading zeros", () -> {
            for (int digit = 0; digit < 10; digit++) {
                dueFault("e0" + digit, 2);
                dueFault("p0" + digit + "=0", 2);
                dueFault("p1=0" + digit, 4);
                dueFault("t0" + digit, 1);
            }
        });
        test(13, words, "each kind and each lot", () -> {
            for (int digit = 0; digit < 10; digit++) {
                dueFault("b" + digit, digit <= 4 ? 2 : 1);
                dueFault("b" + digit + "8", digit <= 4 ? NONE : 1);
                dueFault("b0" + digit, digit >= 1 && digit <= 8 ? NONE : 2);
            }
        });
    }

    private void promise13Full() {
        test(13, "no script, of any length", "a script could be longer than the text can", () -> {
            dueFault(orders(78) + "l,", 80);
            dueFault(orders(78) + ",p", 78);
            dueFault(orders(77) + ",p3", 80);
            dueFault(orders(77) + ",b4", 80);
            dueFault(orders(75) + ",p3=0", NONE);
            dueFault(orders(75) + ",p31=", 80);
        });
        test(13, "no script, of any length", "the last of 80 characters", () -> {
            dueFault(orders(79) + "x", 79);
            dueFault(orders(79), NONE);
            dueFault(orders(77) + ",t9", NONE);
            dueFault(orders(77) + ",e9", NONE);
            dueFault(orders(77) + ",t0", 79);
            dueFault("t".repeat(80), 1);
        });
    }
}
