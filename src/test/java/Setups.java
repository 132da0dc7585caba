/** Tables that many tests begin with. */
final class Setups {
    private Setups() {
    }

    /** Rows with the keys 0, 1, .. and the values 7 * key + 3 modulo 100. */
    static ShadowTable withRows(int rows) {
        ShadowTable x = new ShadowTable();
        for (int key = 0; key < rows; key++) {
            x.put(key, (7 * key + 3) % 100);
        }
        return x;
    }

    /** A copy of a table without rows; its log has this many entries: key 0, 1, .. with the value of the key. */
    static ShadowTable withLog(int entries) {
        ShadowTable x = new ShadowTable();
        x.begin(0, 1);
        for (int key = 0; key < entries; key++) {
            x.put(key, key);
        }
        return x;
    }

    /** A chasing copy with a log of some entries. */
    static ShadowTable chasing(int rows, int entries) {
        ShadowTable x = withRows(rows);
        x.begin(0, 8);
        x.tick(99);
        for (int key = 0; key < entries; key++) {
            x.put(key, 50 + key);
        }
        return x;
    }

    static ShadowTable locked(int rows, int entries) {
        ShadowTable x = chasing(rows, entries);
        x.lock();
        return x;
    }

    static void write(ShadowTable x, String text) {
        x.clearText();
        for (int index = 0; index < text.length(); index++) {
            x.append(text.charAt(index));
        }
    }

    static ShadowTable withText(String text) {
        ShadowTable x = new ShadowTable();
        write(x, text);
        return x;
    }
}
