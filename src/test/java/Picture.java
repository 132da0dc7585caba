/** What the queries of a table tell, as one text. */
final class Picture {
    private Picture() {
    }

    static String of(ShadowTable x) {
        return ofState(x) + "\nstates, fault: " + x.states() + ' ' + x.fault();
    }

    /** The state alone, without history and text. */
    static String ofState(ShadowTable x) {
        StringBuilder text = new StringBuilder();
        for (int table = 0; table < 3; table++) {
            text.append("\ntable ").append(table).append(':');
            for (int what = 0; what < 4; what++) {
                text.append(' ').append(x.table(table, what));
            }
            text.append(" values");
            for (int key = 0; key < 32; key++) {
                text.append(' ').append(x.value(table, key));
            }
        }
        text.append("\ncopy:");
        for (int what = 0; what < 6; what++) {
            text.append(' ').append(x.copy(what));
        }
        text.append("\nlog:");
        for (int entry = 0; entry < 25; entry++) {
            text.append(' ').append(x.entry(entry, 0)).append('=').append(x.entry(entry, 1));
        }
        text.append("\nsettings:");
        for (int setting = 0; setting < 4; setting++) {
            text.append(' ').append(x.setting(setting));
        }
        text.append("\ntotals:");
        for (int what = 0; what < 8; what++) {
            text.append(' ').append(x.total(what));
        }
        text.append("\nthe rest: ").append(x.differences()).append(' ').append(x.firstDifference());
        text.append(' ').append(x.readyIn()).append(' ').append(x.leastLot(1)).append(' ').append(x.leastLot(4));
        text.append(' ').append(x.leastLot(99)).append(' ').append(x.progress());
        return text.toString();
    }
}
