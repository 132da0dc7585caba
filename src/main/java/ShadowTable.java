import java.util.Arrays;

/**
 * A table that is changed while it is used: a shadow table is filled lot by lot, a log of the
 * changes chases it, and both tables are swapped under a lock. ../shared/DOC.md says what each
 * call promises.
 */
public final class ShadowTable {
    /** There is no such key, setting or total. */
    public static final int NO_SUCH = -1;
    /** Another argument is out of its range. */
    public static final int BAD_VALUE = -2;
    /** There is no more room. */
    public static final int TOO_MANY = -3;
    /** The call is not possible in the present state. */
    public static final int NOT_POSSIBLE = -4;
    /** There is no row or no result; this is not an error code. */
    public static final int NONE = -5;
    /** The settings. */
    public static final int STEPS = 0, LAG = 1, PATIENCE = 2, STRICT = 3;
    /** The tables. */
    public static final int LIVE = 0, SHADOW = 1, OLD = 2;

    private static final int KEYS = 32;
    private static final int VALUES = 100;
    private static final int KINDS = 5;
    private static final int MOST_LOT = 8;
    private static final int MOST_TICKS = 99;
    private static final int MOST_ENTRIES = 24;
    private static final int MOST_STATES = 5;
    private static final int MOST_CHARACTERS = 80;
    private static final int MOST_READY_TICKS = 200;
    private static final int SETTINGS = 4;
    private static final int[] LEAST_OF_SETTING = {1, 0, 1, 0};
    private static final int[] MOST_OF_SETTING = {8, 24, 20, 1};

    private static final int NO_COPY = 0, COPYING = 1, CHASING = 2, LOCKED = 3;

    private static final int BEGUN = 0, SWAPS = 1, GIVEN_UP = 2, TIMEOUTS = 3;
    private static final int THROTTLED = 4, APPLIED = 5, COPIED = 6, TICKS = 7;
    private static final int TOTALS = 8;

    private final State state = new State();
    private final State snapshot = new State();
    /** Ticks that only would be are made here, so that the state itself stays. */
    private final State trial = new State();
    private final History history = new History();
    private final Script script = new Script();
    private boolean hasSnapshot;

    public ShadowTable() {
    }

    // ---- rows of the live table

    public int put(int key, int value) {
        history.prepare(state);
        return recorded(state.putRow(key, value));
    }

    public int erase(int key) {
        history.prepare(state);
        return recorded(state.eraseRow(key));
    }

    // ---- the copy

    public int begin(int kind, int lot) {
        history.prepare(state);
        return recorded(state.beginCopy(kind, lot));
    }

    public int tick(int ticks) {
        history.prepare(state);
        return recorded(state.makeTicks(ticks));
    }

    public int lock() {
        history.prepare(state);
        return recorded(state.lockLive());
    }

    public int unlock() {
        history.prepare(state);
        return recorded(state.unlockLive());
    }

    public int swap() {
        history.prepare(state);
        return recorded(state.swapTables());
    }

    public int giveUp() {
        history.prepare(state);
        return recorded(state.giveCopyUp());
    }

    public int set(int setting, int value) {
        history.prepare(state);
        return recorded(state.changeSetting(setting, value));
    }

    // ---- text

    public int append(int character) {
        return script.appendCharacter(character);
    }

    public int clearText() {
        return script.empty();
    }

    public int fault() {
        return script.findFault();
    }

    public int run() {
        int fault = script.findFault();
        if (fault != NONE) {
            return -100 - fault;
        }
        history.prepare(state);
        history.keepPrepared();
        script.goToStart();
        for (int done = 0; done < MOST_CHARACTERS; done++) {
            if (!script.readOrder() || isError(carryOutOrder())) {
                return done;
            }
            if (!script.skip(',')) {
                return done + 1;
            }
        }
        return MOST_CHARACTERS;
    }

    // ---- history and snapshot

    public int undo() {
        return history.takeBack(state);
    }

    public int save() {
        snapshot.take(state);
        hasSnapshot = true;
        return state.live.count();
    }

    public int restore() {
        if (!hasSnapshot) {
            return NOT_POSSIBLE;
        }
        history.prepare(state);
        state.take(snapshot);
        return recorded(state.live.count());
    }

    // ---- queries; they change nothing

    public int value(int table, int key) {
        if (!isKey(key)) {
            return NO_SUCH;
        }
        if (!isTable(table)) {
            return BAD_VALUE;
        }
        Rows rows = state.rowsOf(table);
        return rows == null ? NONE : rows.at(key);
    }

    public int table(int table, int what) {
        if (!isTable(table) || !isIn(what, 0, 3)) {
            return BAD_VALUE;
        }
        Rows rows = state.rowsOf(table);
        return rows == null ? NONE : rows.tell(what);
    }

    public int copy(int what) {
        return isIn(what, 0, 5) ? state.copy.tell(what) : BAD_VALUE;
    }

    public int entry(int entry, int what) {
        if (entry < 0 || !isIn(what, 0, 1)) {
            return BAD_VALUE;
        }
        if (!state.hasCopy()) {
            return NONE;
        }
        Log log = state.copy.log;
        return what == 0 ? log.keyAt(entry) : log.valueAt(entry);
    }

    public int changed(int kind, int key, int value) {
        if (!isKey(key)) {
            return NO_SUCH;
        }
        if (!isKind(kind) || !isValue(value)) {
            return BAD_VALUE;
        }
        return changedValue(kind, key, value);
    }

    public int differences() {
        if (!state.hasCopy()) {
            return NONE;
        }
        int count = 0;
        for (int key = 0; key < KEYS; key++) {
            if (state.differsAt(key)) {
                count++;
            }
        }
        return count;
    }

    public int firstDifference() {
        if (!state.hasCopy()) {
            return NONE;
        }
        for (int key = 0; key < KEYS; key++) {
            if (state.differsAt(key)) {
                return key;
            }
        }
        return NONE;
    }

    public int setting(int setting) {
        return isSetting(setting) ? state.settings[setting] : NO_SUCH;
    }

    public int total(int what) {
        return isIn(what, 0, TOTALS - 1) ? state.totals[what] : NO_SUCH;
    }

    public int states() {
        return history.count;
    }

    // ---- what would be; nothing is changed

    public int readyIn() {
        if (!state.canBecomeReady()) {
            return NOT_POSSIBLE;
        }
        trial.take(state);
        return trial.ticksUntilReady(MOST_READY_TICKS);
    }

    public int leastLot(int ticks) {
        if (!isTicks(ticks)) {
            return BAD_VALUE;
        }
        if (!state.canBecomeReady()) {
            return NOT_POSSIBLE;
        }
        for (int lot = 1; lot <= MOST_LOT; lot++) {
            trial.take(state);
            trial.copy.lot = lot;
            if (trial.ticksUntilReady(ticks) != NONE) {
                return lot;
            }
        }
        return NONE;
    }

    public double progress() {
        return state.hasCopy() ? (double) state.copy.cursor / KEYS : 0.0;
    }

    // ---- what the calls share

    /** Keeps the state that was prepared, unless the action was refused. */
    private int recorded(int answer) {
        if (!isError(answer)) {
            history.keepPrepared();
        }
        return answer;
    }

    /** Carries out the order that was read last. */
    private int carryOutOrder() {
        switch (script.order) {
            case 'p':
                return state.putRow(script.first, script.second);
            case 'e':
                return state.eraseRow(script.first);
            case 'b':
                return state.beginCopy(script.first, script.second);
            case 't':
                return state.makeTicks(script.first);
            case 'l':
                return state.lockLive();
            case 'u':
                return state.unlockLive();
            case 's':
                return state.swapTables();
            default:
                return state.giveCopyUp();
        }
    }

    private static boolean isError(int answer) {
        return answer < 0 && answer != NONE;
    }

    private static boolean isIn(int number, int least, int most) {
        return number >= least && number <= most;
    }

    private static boolean isKey(int key) {
        return isIn(key, 0, KEYS - 1);
    }

    private static boolean isValue(int value) {
        return isIn(value, 0, VALUES - 1);
    }

    private static boolean isKind(int kind) {
        return isIn(kind, 0, KINDS - 1);
    }

    private static boolean isLot(int lot) {
        return isIn(lot, 1, MOST_LOT);
    }

    private static boolean isTicks(int ticks) {
        return isIn(ticks, 1, MOST_TICKS);
    }

    private static boolean isTable(int table) {
        return isIn(table, LIVE, OLD);
    }

    private static boolean isSetting(int setting) {
        return isIn(setting, 0, SETTINGS - 1);
    }

    /** The value that a row of the live table gets in the shadow table; NONE if it gets none there. */
    private static int changedValue(int kind, int key, int value) {
        if (value == NONE) {
            return NONE;
        }
        switch (kind) {
            case 1:
                return 2 * value % VALUES;
            case 2:
                return value % 10 * 10 + value / 10;
            case 3:
                return value % 2 == 0 ? value : NONE;
            case 4:
                return (value + key) % VALUES;
            default:
                return value;
        }
    }

    /** A table: a value for each key, NONE where there is no row. */
    private static final class Rows {
        private final int[] values = new int[KEYS];

        Rows() {
            Arrays.fill(values, NONE);
        }

        int at(int key) {
            return key >= 0 && key < KEYS ? values[key] : NONE;
        }

        /** The value NONE removes the row. */
        void place(int key, int value) {
            if (key >= 0 && key < KEYS) {
                values[key] = value;
            }
        }

        void removeAll() {
            Arrays.fill(values, NONE);
        }

        void take(Rows other) {
            System.arraycopy(other.values, 0, values, 0, KEYS);
        }

        int tell(int what) {
            switch (what) {
                case 0:
                    return count();
                case 1:
                    return sum();
                case 2:
                    return leastKey();
                default:
                    return greatestKey();
            }
        }

        int count() {
            int count = 0;
            for (int key = 0; key < KEYS; key++) {
                if (values[key] != NONE) {
                    count++;
                }
            }
            return count;
        }

        private int sum() {
            int sum = 0;
            for (int key = 0; key < KEYS; key++) {
                if (values[key] != NONE) {
                    sum += values[key];
                }
            }
            return sum;
        }

        private int leastKey() {
            for (int key = 0; key < KEYS; key++) {
                if (values[key] != NONE) {
                    return key;
                }
            }
            return NONE;
        }

        private int greatestKey() {
            for (int key = KEYS - 1; key >= 0; key--) {
                if (values[key] != NONE) {
                    return key;
                }
            }
            return NONE;
        }
    }

    /** The changes that wait to be applied, in a ring, so that the first one goes without a shift. */
    private static final class Log {
        private final int[] keys = new int[MOST_ENTRIES];
        private final int[] values = new int[MOST_ENTRIES];
        private int start;
        private int size;

        void removeAll() {
            start = 0;
            size = 0;
        }

        void take(Log other) {
            System.arraycopy(other.keys, 0, keys, 0, MOST_ENTRIES);
            System.arraycopy(other.values, 0, values, 0, MOST_ENTRIES);
            start = other.start;
            size = other.size;
        }

        /** Answers false, and adds nothing, if there is no room; the value NONE tells of a removal. */
        boolean add(int key, int value) {
            if (size >= MOST_ENTRIES) {
                return false;
            }
            int slot = slotOf(size);
            keys[slot] = key;
            values[slot] = value;
            size++;
            return true;
        }

        void removeFirst() {
            if (size > 0) {
                start = slotOf(1);
                size--;
            }
        }

        int keyAt(int entry) {
            return entry >= 0 && entry < size ? keys[slotOf(entry)] : NONE;
        }

        int valueAt(int entry) {
            return entry >= 0 && entry < size ? values[slotOf(entry)] : NONE;
        }

        private int slotOf(int entry) {
            return (start + entry) % MOST_ENTRIES;
        }
    }

    /** The copy under way, with its shadow table and its log; in the phase NO_COPY the rest is stale. */
    private static final class Copy {
        private final Rows shadow = new Rows();
        private final Log log = new Log();
        private int phase = NO_COPY;
        private int kind;
        private int lot;
        private int cursor;
        private int age;

        void start(int newKind, int newLot) {
            shadow.removeAll();
            log.removeAll();
            phase = COPYING;
            kind = newKind;
            lot = newLot;
            cursor = 0;
        }

        void take(Copy other) {
            shadow.take(other.shadow);
            log.take(other.log);
            phase = other.phase;
            kind = other.kind;
            lot = other.lot;
            cursor = other.cursor;
            age = other.age;
        }

        /** Answers whether the shadow table got a row. */
        boolean copyKey(int key, int liveValue) {
            cursor = key + 1;
            int due = changedValue(kind, key, liveValue);
            if (due == NONE || shadow.at(key) != NONE) {
                return false;
            }
            shadow.place(key, due);
            return true;
        }

        int tell(int what) {
            if (what == 0) {
                return phase;
            }
            if (what == 5) {
                return phase == LOCKED ? age : NONE;
            }
            if (phase == NO_COPY) {
                return NONE;
            }
            switch (what) {
                case 1:
                    return kind;
                case 2:
                    return lot;
                case 3:
                    return cursor;
                default:
                    return log.size;
            }
        }
    }

    /** All that undo and restore bring back. Each action answers as its method does, but records nothing. */
    private static final class State {
        private final Rows live = new Rows();
        private final Rows old = new Rows();
        private boolean hasOld;
        private final Copy copy = new Copy();
        private final int[] settings = {3, 6, 5, 0};
        private final int[] totals = new int[TOTALS];

        void take(State other) {
            live.take(other.live);
            old.take(other.old);
            hasOld = other.hasOld;
            copy.take(other.copy);
            System.arraycopy(other.settings, 0, settings, 0, SETTINGS);
            System.arraycopy(other.totals, 0, totals, 0, TOTALS);
        }

        int putRow(int key, int value) {
            if (!isKey(key)) {
                return NO_SUCH;
            }
            if (!isValue(value)) {
                return BAD_VALUE;
            }
            if (copy.phase == LOCKED) {
                return NOT_POSSIBLE;
            }
            return changeRow(key, value);
        }

        int eraseRow(int key) {
            if (!isKey(key)) {
                return NO_SUCH;
            }
            if (copy.phase == LOCKED) {
                return NOT_POSSIBLE;
            }
            // No row, no change: a full log must not matter then.
            return live.at(key) == NONE ? NONE : changeRow(key, NONE);
        }

        /** The value NONE removes the row. */
        private int changeRow(int key, int value) {
            if (hasCopy() && !copy.log.add(key, value)) {
                if (settings[STRICT] == 1) {
                    return TOO_MANY;
                }
                endGivenUp();
            }
            int previous = live.at(key);
            live.place(key, value);
            return previous;
        }

        int beginCopy(int kind, int lot) {
            if (!isKind(kind) || !isLot(lot)) {
                return BAD_VALUE;
            }
            if (hasCopy()) {
                return NOT_POSSIBLE;
            }
            copy.start(kind, lot);
            totals[BEGUN]++;
            return live.count();
        }

        int makeTicks(int ticks) {
            if (!isTicks(ticks)) {
                return BAD_VALUE;
            }
            for (int made = 0; made < ticks; made++) {
                makeTick();
            }
            return copy.phase;
        }

        private void makeTick() {
            totals[TICKS]++;
            if (!hasCopy() || lockRunsOut()) {
                return;
            }
            applyEntries();
            if (copy.phase == COPYING) {
                copyLot();
            }
        }

        /** Makes a lock one tick older, and answers whether this released it. */
        private boolean lockRunsOut() {
            if (copy.phase != LOCKED) {
                return false;
            }
            copy.age++;
            if (copy.age <= settings[PATIENCE]) {
                return false;
            }
            copy.phase = CHASING;
            totals[TIMEOUTS]++;
            return true;
        }

        private void applyEntries() {
            Log log = copy.log;
            for (int step = 0; step < settings[STEPS] && log.size > 0; step++) {
                int key = log.keyAt(0);
                copy.shadow.place(key, changedValue(copy.kind, key, log.valueAt(0)));
                log.removeFirst();
                totals[APPLIED]++;
            }
        }

        private void copyLot() {
            if (copy.log.size > settings[LAG]) {
                totals[THROTTLED]++;
                return;
            }
            int counted = 0;
            for (int key = copy.cursor; key < KEYS && counted < copy.lot; key++) {
                // A live row counts for the lot even if the shadow table gets nothing for it.
                if (live.at(key) != NONE) {
                    counted++;
                }
                if (copy.copyKey(key, live.at(key))) {
                    totals[COPIED]++;
                }
            }
            if (copy.cursor >= KEYS) {
                copy.phase = CHASING;
            }
        }

        int lockLive() {
            if (copy.phase != CHASING) {
                return NOT_POSSIBLE;
            }
            copy.phase = LOCKED;
            copy.age = 0;
            return copy.log.size;
        }

        int unlockLive() {
            if (copy.phase != LOCKED) {
                return NOT_POSSIBLE;
            }
            copy.phase = CHASING;
            return copy.age;
        }

        int swapTables() {
            if (copy.phase != LOCKED || copy.log.size > 0) {
                return NOT_POSSIBLE;
            }
            old.take(live);
            hasOld = true;
            live.take(copy.shadow);
            copy.phase = NO_COPY;
            totals[SWAPS]++;
            return live.count();
        }

        int giveCopyUp() {
            if (!hasCopy()) {
                return NOT_POSSIBLE;
            }
            endGivenUp();
            return copy.shadow.count();
        }

        private void endGivenUp() {
            copy.phase = NO_COPY;
            totals[GIVEN_UP]++;
        }

        int changeSetting(int setting, int value) {
            if (!isSetting(setting)) {
                return NO_SUCH;
            }
            if (!isIn(value, LEAST_OF_SETTING[setting], MOST_OF_SETTING[setting])) {
                return BAD_VALUE;
            }
            int previous = settings[setting];
            settings[setting] = value;
            return previous;
        }

        boolean hasCopy() {
            return copy.phase != NO_COPY;
        }

        /** The table with this number; null if there is none now. */
        Rows rowsOf(int table) {
            switch (table) {
                case LIVE:
                    return live;
                case SHADOW:
                    return hasCopy() ? copy.shadow : null;
                default:
                    return hasOld ? old : null;
            }
        }

        boolean differsAt(int key) {
            return copy.shadow.at(key) != changedValue(copy.kind, key, live.at(key));
        }

        boolean canBecomeReady() {
            return copy.phase == COPYING || copy.phase == CHASING;
        }

        /** Makes ticks until the copy is ready, and answers how many; NONE if so many are too few. */
        int ticksUntilReady(int most) {
            for (int made = 0; made <= most; made++) {
                if (copy.phase == CHASING && copy.log.size == 0) {
                    return made;
                }
                makeTick();
            }
            return NONE;
        }
    }

    /** The latest states, in a ring with one slot more, in which a state waits to be kept. */
    private static final class History {
        private static final int SLOTS = MOST_STATES + 1;

        private final State[] slots = new State[SLOTS];
        private int start;
        private int count;

        History() {
            for (int slot = 0; slot < SLOTS; slot++) {
                slots[slot] = new State();
            }
        }

        void prepare(State state) {
            slots[slotOf(count)].take(state);
        }

        void keepPrepared() {
            if (count < MOST_STATES) {
                count++;
            } else {
                start = slotOf(1);
            }
        }

        int takeBack(State state) {
            if (count == 0) {
                return NONE;
            }
            count--;
            state.take(slots[slotOf(count)]);
            return count;
        }

        private int slotOf(int place) {
            return (start + place) % SLOTS;
        }
    }

    /** The text, and a reader of its orders; where the reader stops is where the fault is. */
    private static final class Script {
        private final int[] characters = new int[MOST_CHARACTERS];
        private int length;
        private int position;
        private int number;
        private int order;
        private int first;
        private int second;

        int appendCharacter(int character) {
            if (!isIn(character, 32, 126)) {
                return BAD_VALUE;
            }
            if (length >= MOST_CHARACTERS) {
                return TOO_MANY;
            }
            characters[length] = character;
            length++;
            return length;
        }

        int empty() {
            int previous = length;
            length = 0;
            return previous;
        }

        void goToStart() {
            position = 0;
        }

        int findFault() {
            goToStart();
            for (int orders = 0; orders < MOST_CHARACTERS; orders++) {
                if (!readOrder()) {
                    return position;
                }
                if (position >= length) {
                    return NONE;
                }
                if (!skip(',')) {
                    return position;
                }
            }
            return position;
        }

        /** Reads an order and its numbers; false if it ends too early or goes on wrongly at the position. */
        boolean readOrder() {
            order = here();
            switch (order) {
                case 'p':
                    position++;
                    return readFirst(0, KEYS - 1) && skip('=') && readSecond(0, VALUES - 1);
                case 'e':
                    position++;
                    return readFirst(0, KEYS - 1);
                case 'b':
                    position++;
                    return readFirst(0, KINDS - 1) && readSecond(1, MOST_LOT);
                case 't':
                    position++;
                    if (!readFirst(1, MOST_TICKS)) {
                        first = 1;
                    }
                    return true;
                case 'l':
                case 'u':
                case 's':
                case 'g':
                    position++;
                    return true;
                default:
                    return false;
            }
        }

        boolean skip(int character) {
            if (here() != character) {
                return false;
            }
            position++;
            return true;
        }

        private boolean readFirst(int least, int most) {
            boolean isRead = readNumber(least, most);
            first = number;
            return isRead;
        }

        private boolean readSecond(int least, int most) {
            boolean isRead = readNumber(least, most);
            second = number;
            return isRead;
        }

        /** Takes a second digit only if the number stays in its range: that digit is the fault otherwise. */
        private boolean readNumber(int least, int most) {
            number = digitHere();
            if (number < least || number > most) {
                return false;
            }
            position++;
            int digit = digitHere();
            // Behind a zero no digit may follow: it would be a leading zero. No number has three digits.
            if (digit != NONE && number != 0 && 10 * number + digit <= most) {
                number = 10 * number + digit;
                position++;
            }
            return true;
        }

        /** The digit at the position; NONE if there is none. */
        private int digitHere() {
            int character = here();
            return isIn(character, '0', '9') ? character - '0' : NONE;
        }

        /** The character at the position; NONE behind the end. */
        private int here() {
            return position >= 0 && position < length ? characters[position] : NONE;
        }
    }
}
