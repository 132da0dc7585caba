/** What can be seen of a table, as one text. */
final class Picture {
    private Picture() {
    }

    /** All that can be seen; this uses the table up, by 380 calls at most that undo, restore and clear. */
    static String ofAll(Used x) {
        StringBuilder text = new StringBuilder(ofState(x));
        text.append("\nfault: ").append(x.fault());
        text.append("\nstates: ").append(x.states());
        int left = 1;
        for (int undone = 0; undone < 6 && left > 0; undone++) {
            left = x.undo();
            text.append("\nundo: ").append(left);
            addOutlines(text, x);
        }
        text.append("\nrestore: ").append(x.restore());
        addOutlines(text, x);
        text.append("\nlength of the text: ").append(x.clearText());
        return text.toString();
    }

    /** The state alone, without history, snapshot and text; 190 calls at most. */
    static String ofState(Used x) {
        StringBuilder text = new StringBuilder();
        addOutlines(text, x);
        for (int table = 0; table < 3; table++) {
            text.append("\nvalues:");
            for (int key = 0; key < 32; key++) {
                text.append(' ').append(x.value(table, key));
            }
        }
        text.append("\nlog:");
        int entries = x.copy(4);
        for (int entry = 0; entry <= entries; entry++) {
            text.append(' ').append(x.entry(entry, 0)).append('=').append(x.entry(entry, 1));
        }
        text.append("\nthe rest: ").append(x.differences()).append(' ').append(x.firstDifference());
        text.append(' ').append(x.readyIn()).append(' ').append(x.leastLot(1)).append(' ').append(x.leastLot(4));
        text.append(' ').append(x.leastLot(99)).append(' ').append(x.progress());
        return text.toString();
    }

    private static void addOutlines(StringBuilder text, Used x) {
        text.append("\ntables:");
        for (int table = 0; table < 3; table++) {
            for (int what = 0; what < 4; what++) {
                text.append(' ').append(x.table(table, what));
            }
        }
        text.append("\ncopy:");
        for (int what = 0; what < 6; what++) {
            text.append(' ').append(x.copy(what));
        }
        text.append("\nsettings:");
        for (int setting = 0; setting < 4; setting++) {
            text.append(' ').append(x.setting(setting));
        }
        text.append("\ntotals:");
        for (int what = 0; what < 8; what++) {
            text.append(' ').append(x.total(what));
        }
    }
}
