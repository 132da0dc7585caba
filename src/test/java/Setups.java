/** Tables that many tests begin with. */
final class Setups {
    private Setups() {
    }

    /** Rows with the keys 0, 1, .. and the values 7 * key + 3 modulo 100: 3, 10, 17, 24, 31, .. */
    static Used withRows(int rows) {
        Used x = new Used();
        for (int key = 0; key < rows; key++) {
            x.put(key, (7 * key + 3) % 100);
        }
        return x;
    }

    /** A copy in the phase 1 of a table without rows; its log has entries: key 0, 1, .. with the value of the key. */
    static Used withLog(int entries) {
        Used x = new Used();
        x.begin(0, 1);
        addEntries(x, entries);
        return x;
    }

    /** As withLog, in the phase 2. */
    static Used chasingLog(int entries) {
        Used x = new Used();
        x.begin(0, 1);
        x.tick(1);
        addEntries(x, entries);
        return x;
    }

    /** As withLog, in the phase 3. */
    static Used lockedLog(int entries) {
        Used x = chasingLog(entries);
        x.lock();
        return x;
    }

    private static void addEntries(Used x, int entries) {
        for (int key = 0; key < entries; key++) {
            x.put(key, key);
        }
    }

    /** Rows as in withRows, and a copy of them that is in a phase from 0 to 3, of the kind 0. */
    static Used inPhase(int phase, int rows) {
        Used x = withRows(rows);
        if (phase >= 1) {
            x.begin(0, 8);
        }
        if (phase >= 2) {
            x.tick(5);
        }
        if (phase >= 3) {
            x.lock();
        }
        return x;
    }

    /** Rows as in withRows, which became a live and an old table by a swap of the kind 1. */
    static Used swapped(int rows) {
        Used x = withRows(rows);
        x.begin(1, 8);
        x.tick(5);
        x.lock();
        x.swap();
        return x;
    }

    static Used withText(String text) {
        Used x = new Used();
        write(x, text);
        return x;
    }

    static void write(Used x, String text) {
        for (int index = 0; index < text.length(); index++) {
            x.append(text.charAt(index));
        }
    }
}
