/** A table whose calls are counted: the document leaves free what a table answers behind its 512th call. */
final class Used {
    static final int MOST_CALLS = 512;

    private final ShadowTable table = new ShadowTable();
    private int callsLeft = MOST_CALLS;

    int callsLeft() {
        return callsLeft;
    }

    private ShadowTable next() {
        if (callsLeft == 0) {
            throw new IllegalStateException("the test uses a table for more than 512 calls");
        }
        callsLeft--;
        return table;
    }

    int put(int key, int value) {
        return next().put(key, value);
    }

    int erase(int key) {
        return next().erase(key);
    }

    int begin(int kind, int lot) {
        return next().begin(kind, lot);
    }

    int tick(int ticks) {
        return next().tick(ticks);
    }

    int lock() {
        return next().lock();
    }

    int unlock() {
        return next().unlock();
    }

    int swap() {
        return next().swap();
    }

    int giveUp() {
        return next().giveUp();
    }

    int set(int setting, int value) {
        return next().set(setting, value);
    }

    int append(int character) {
        return next().append(character);
    }

    int clearText() {
        return next().clearText();
    }

    int fault() {
        return next().fault();
    }

    int run() {
        return next().run();
    }

    int undo() {
        return next().undo();
    }

    int save() {
        return next().save();
    }

    int restore() {
        return next().restore();
    }

    int value(int table, int key) {
        return next().value(table, key);
    }

    int table(int table, int what) {
        return next().table(table, what);
    }

    int copy(int what) {
        return next().copy(what);
    }

    int entry(int entry, int what) {
        return next().entry(entry, what);
    }

    int changed(int kind, int key, int value) {
        return next().changed(kind, key, value);
    }

    int differences() {
        return next().differences();
    }

    int firstDifference() {
        return next().firstDifference();
    }

    int setting(int setting) {
        return next().setting(setting);
    }

    int total(int what) {
        return next().total(what);
    }

    int states() {
        return next().states();
    }

    int readyIn() {
        return next().readyIn();
    }

    int leastLot(int ticks) {
        return next().leastLot(ticks);
    }

    double progress() {
        return next().progress();
    }
}
