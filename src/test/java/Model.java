import java.util.ArrayDeque;
import java.util.ArrayList;
import java.util.Deque;
import java.util.List;
import java.util.TreeMap;
import java.util.TreeSet;
import java.util.regex.Matcher;
import java.util.regex.Pattern;

/**
 * The document once more, in the plainest Java and without the rules of LANGUAGE.md: maps, lists, a new copy
 * of all for each state that is kept, and a regular expression for scripts.
 */
final class Model {
    private static final int NO_SUCH = -1, BAD_VALUE = -2, TOO_MANY = -3, NOT_POSSIBLE = -4, NONE = -5;
    private static final Pattern ORDER = Pattern.compile(
        "p([0-9]|[12][0-9]|3[01])=([0-9]|[1-9][0-9])|e([0-9]|[12][0-9]|3[01])|b[0-4][1-8]|t([1-9][0-9]?)?|[lusg]");
    private static final Pattern SCRIPT = Pattern.compile("(" + ORDER + ")(,(" + ORDER + "))*");
    /** What a beginning of a script can lack to be a whole one. */
    private static final String[] ENDS = {"", "0=0", "=0", "0", "01", "1", "t"};

    /** A copy under way. */
    private static final class Copy {
        int kind;
        int lot;
        int cursor;
        int phase = 1;
        int age;
        TreeMap<Integer, Integer> shadow = new TreeMap<>();
        /** Pairs of a key and a value, which is null for no row. */
        List<Integer[]> log = new ArrayList<>();
    }

    private static final class State {
        TreeMap<Integer, Integer> live = new TreeMap<>();
        TreeMap<Integer, Integer> old;
        Copy copy;
        int[] settings = {3, 6, 5, 0};
        int[] totals = new int[8];

        State twin() {
            State twin = new State();
            twin.live = new TreeMap<>(live);
            twin.old = old == null ? null : new TreeMap<>(old);
            twin.settings = settings.clone();
            twin.totals = totals.clone();
            if (copy != null) {
                twin.copy = new Copy();
                twin.copy.kind = copy.kind;
                twin.copy.lot = copy.lot;
                twin.copy.cursor = copy.cursor;
                twin.copy.phase = copy.phase;
                twin.copy.age = copy.age;
                twin.copy.shadow = new TreeMap<>(copy.shadow);
                twin.copy.log = new ArrayList<>(copy.log);
            }
            return twin;
        }
    }

    private State state = new State();
    private State snapshot;
    private final Deque<State> history = new ArrayDeque<>();
    private String text = "";

    // ---- actions: the state before them is kept unless they answer an error code

    private interface Action {
        int answer();
    }

    private int act(Action action) {
        State before = state.twin();
        int answer = action.answer();
        if (answer >= 0 || answer == NONE) {
            history.addLast(before);
            if (history.size() > 5) {
                history.removeFirst();
            }
        }
        return answer;
    }

    int put(int key, int value) {
        return act(() -> putNow(key, value));
    }

    int erase(int key) {
        return act(() -> eraseNow(key));
    }

    int begin(int kind, int lot) {
        return act(() -> beginNow(kind, lot));
    }

    int tick(int ticks) {
        return act(() -> tickNow(ticks));
    }

    int lock() {
        return act(this::lockNow);
    }

    int unlock() {
        return act(this::unlockNow);
    }

    int swap() {
        return act(this::swapNow);
    }

    int giveUp() {
        return act(this::giveUpNow);
    }

    int set(int setting, int value) {
        return act(() -> setNow(setting, value));
    }

    int restore() {
        return act(() -> {
            if (snapshot == null) {
                return NOT_POSSIBLE;
            }
            state = snapshot.twin();
            return state.live.size();
        });
    }

    int run() {
        return act(() -> {
            int fault = fault();
            return fault == NONE ? runNow() : -100 - fault;
        });
    }

    private int putNow(int key, int value) {
        if (key < 0 || key > 31) {
            return NO_SUCH;
        }
        if (value < 0 || value > 99) {
            return BAD_VALUE;
        }
        return changeNow(key, value);
    }

    private int eraseNow(int key) {
        if (key < 0 || key > 31) {
            return NO_SUCH;
        }
        if (copy(0) != 3 && !state.live.containsKey(key)) {
            return NONE;
        }
        return changeNow(key, null);
    }

    private int changeNow(int key, Integer value) {
        if (copy(0) == 3) {
            return NOT_POSSIBLE;
        }
        if (state.copy != null && state.copy.log.size() == 24) {
            if (state.settings[3] == 1) {
                return TOO_MANY;
            }
            giveUpNow();
        }
        if (state.copy != null) {
            state.copy.log.add(new Integer[] {key, value});
        }
        Integer previous = value == null ? state.live.remove(key) : state.live.put(key, value);
        return previous == null ? NONE : previous;
    }

    private int beginNow(int kind, int lot) {
        if (kind < 0 || kind > 4 || lot < 1 || lot > 8) {
            return BAD_VALUE;
        }
        if (state.copy != null) {
            return NOT_POSSIBLE;
        }
        state.copy = new Copy();
        state.copy.kind = kind;
        state.copy.lot = lot;
        state.totals[0]++;
        return state.live.size();
    }

    private int tickNow(int ticks) {
        if (ticks < 1 || ticks > 99) {
            return BAD_VALUE;
        }
        for (int tick = 0; tick < ticks; tick++) {
            oneTick(state);
        }
        return copy(0);
    }

    private static void oneTick(State state) {
        state.totals[7]++;
        Copy copy = state.copy;
        if (copy == null) {
            return;
        }
        if (copy.phase == 3) {
            copy.age++;
            if (copy.age > state.settings[2]) {
                copy.phase = 2;
                state.totals[3]++;
                return;
            }
        }
        for (int step = 1; step <= state.settings[0] && !copy.log.isEmpty(); step++) {
            Integer[] entry = copy.log.remove(0);
            state.totals[5]++;
            Integer due = entry[1] == null ? null : become(copy.kind, entry[0], entry[1]);
            if (due == null) {
                copy.shadow.remove(entry[0]);
            } else {
                copy.shadow.put(entry[0], due);
            }
        }
        if (copy.phase == 1 && copy.log.size() > state.settings[1]) {
            state.totals[4]++;
        } else if (copy.phase == 1) {
            int toCopy = copy.lot;
            while (copy.cursor < 32 && toCopy > 0) {
                int key = copy.cursor;
                Integer value = state.live.get(key);
                toCopy -= value == null ? 0 : 1;
                Integer due = value == null ? null : become(copy.kind, key, value);
                if (due != null && !copy.shadow.containsKey(key)) {
                    copy.shadow.put(key, due);
                    state.totals[6]++;
                }
                copy.cursor++;
            }
            copy.phase = copy.cursor == 32 ? 2 : 1;
        }
    }

    /** The value of the changed row; null if it is left out. */
    private static Integer become(int kind, int key, int value) {
        if (kind == 1) {
            return value * 2 >= 100 ? value * 2 - 100 : value * 2;
        }
        if (kind == 2) {
            String digits = value < 10 ? "0" + value : "" + value;
            return Integer.valueOf("" + digits.charAt(1) + digits.charAt(0));
        }
        if (kind == 3 && (value & 1) == 1) {
            return null;
        }
        if (kind == 4) {
            return value + key >= 100 ? value + key - 100 : value + key;
        }
        return value;
    }

    private int lockNow() {
        if (copy(0) != 2) {
            return NOT_POSSIBLE;
        }
        state.copy.phase = 3;
        state.copy.age = 0;
        return state.copy.log.size();
    }

    private int unlockNow() {
        if (copy(0) != 3) {
            return NOT_POSSIBLE;
        }
        state.copy.phase = 2;
        return state.copy.age;
    }

    private int swapNow() {
        if (copy(0) != 3 || !state.copy.log.isEmpty()) {
            return NOT_POSSIBLE;
        }
        state.old = state.live;
        state.live = state.copy.shadow;
        state.copy = null;
        state.totals[1]++;
        return state.live.size();
    }

    private int giveUpNow() {
        if (state.copy == null) {
            return NOT_POSSIBLE;
        }
        int rows = state.copy.shadow.size();
        state.copy = null;
        state.totals[2]++;
        return rows;
    }

    private int setNow(int setting, int value) {
        if (setting < 0 || setting > 3) {
            return NO_SUCH;
        }
        int least = setting == 0 || setting == 2 ? 1 : 0;
        int most = new int[] {8, 24, 20, 1}[setting];
        if (value < least || value > most) {
            return BAD_VALUE;
        }
        int previous = state.settings[setting];
        state.settings[setting] = value;
        return previous;
    }

    private int runNow() {
        int done = 0;
        for (String order : text.split(",")) {
            int answer = orderNow(order.charAt(0), order.substring(1));
            if (answer < 0 && answer != NONE) {
                return done;
            }
            done++;
        }
        return done;
    }

    private int orderNow(char letter, String rest) {
        switch (letter) {
            case 'p':
                String[] pair = rest.split("=");
                return putNow(Integer.parseInt(pair[0]), Integer.parseInt(pair[1]));
            case 'e':
                return eraseNow(Integer.parseInt(rest));
            case 'b':
                return beginNow(rest.charAt(0) - '0', rest.charAt(1) - '0');
            case 't':
                return tickNow(rest.isEmpty() ? 1 : Integer.parseInt(rest));
            case 'l':
                return lockNow();
            case 'u':
                return unlockNow();
            case 's':
                return swapNow();
            default:
                return giveUpNow();
        }
    }

    // ---- text, history, snapshot

    int append(int character) {
        if (character < 32 || character > 126) {
            return BAD_VALUE;
        }
        if (text.length() == 80) {
            return TOO_MANY;
        }
        text += (char) character;
        return text.length();
    }

    int clearText() {
        int length = text.length();
        text = "";
        return length;
    }

    int fault() {
        for (int length = 1; length <= text.length(); length++) {
            if (!canBegin(text.substring(0, length))) {
                return length - 1;
            }
        }
        return SCRIPT.matcher(text).matches() ? NONE : text.length();
    }

    private static boolean canBegin(String beginning) {
        for (String end : ENDS) {
            Matcher matcher = SCRIPT.matcher(beginning + end);
            if (matcher.matches()) {
                return true;
            }
        }
        return false;
    }

    int undo() {
        if (history.isEmpty()) {
            return NONE;
        }
        state = history.removeLast();
        return history.size();
    }

    int save() {
        snapshot = state.twin();
        return state.live.size();
    }

    // ---- queries

    private TreeMap<Integer, Integer> rowsOf(int table) {
        if (table == 1) {
            return state.copy == null ? null : state.copy.shadow;
        }
        return table == 0 ? state.live : state.old;
    }

    int value(int table, int key) {
        if (key < 0 || key > 31) {
            return NO_SUCH;
        }
        if (table < 0 || table > 2) {
            return BAD_VALUE;
        }
        TreeMap<Integer, Integer> rows = rowsOf(table);
        return rows == null ? NONE : rows.getOrDefault(key, NONE);
    }

    int table(int table, int what) {
        if (table < 0 || table > 2 || what < 0 || what > 3) {
            return BAD_VALUE;
        }
        TreeMap<Integer, Integer> rows = rowsOf(table);
        if (rows == null || what > 1 && rows.isEmpty()) {
            return NONE;
        }
        int sum = 0;
        for (int value : rows.values()) {
            sum += value;
        }
        return what == 0 ? rows.size() : what == 1 ? sum : what == 2 ? rows.firstKey() : rows.lastKey();
    }

    int copy(int what) {
        if (what < 0 || what > 5) {
            return BAD_VALUE;
        }
        Copy copy = state.copy;
        if (copy == null) {
            return what == 0 ? 0 : NONE;
        }
        int age = copy.phase == 3 ? copy.age : NONE;
        return new int[] {copy.phase, copy.kind, copy.lot, copy.cursor, copy.log.size(), age}[what];
    }

    int entry(int entry, int what) {
        if (entry < 0 || what < 0 || what > 1) {
            return BAD_VALUE;
        }
        if (state.copy == null || entry >= state.copy.log.size()) {
            return NONE;
        }
        Integer told = state.copy.log.get(entry)[what];
        return told == null ? NONE : told;
    }

    int changed(int kind, int key, int value) {
        if (key < 0 || key > 31) {
            return NO_SUCH;
        }
        if (kind < 0 || kind > 4 || value < 0 || value > 99) {
            return BAD_VALUE;
        }
        Integer due = become(kind, key, value);
        return due == null ? NONE : due;
    }

    private TreeSet<Integer> differingKeys() {
        TreeMap<Integer, Integer> due = new TreeMap<>();
        state.live.forEach((key, value) -> {
            Integer becomes = become(state.copy.kind, key, value);
            if (becomes != null) {
                due.put(key, becomes);
            }
        });
        TreeSet<Integer> keys = new TreeSet<>(due.keySet());
        keys.addAll(state.copy.shadow.keySet());
        keys.removeIf(key -> due.containsKey(key) && due.get(key).equals(state.copy.shadow.get(key)));
        return keys;
    }

    int differences() {
        return state.copy == null ? NONE : differingKeys().size();
    }

    int firstDifference() {
        return state.copy == null || differingKeys().isEmpty() ? NONE : differingKeys().first();
    }

    int setting(int setting) {
        return setting < 0 || setting > 3 ? NO_SUCH : state.settings[setting];
    }

    int total(int what) {
        return what < 0 || what > 7 ? NO_SUCH : state.totals[what];
    }

    int states() {
        return history.size();
    }

    // ---- what would be

    int readyIn() {
        return copy(0) == 0 || copy(0) == 3 ? NOT_POSSIBLE : ticksWithLot(state.copy.lot);
    }

    int leastLot(int ticks) {
        if (ticks < 1 || ticks > 99) {
            return BAD_VALUE;
        }
        if (copy(0) == 0 || copy(0) == 3) {
            return NOT_POSSIBLE;
        }
        for (int lot = 1; lot <= 8; lot++) {
            int needed = ticksWithLot(lot);
            if (needed >= 0 && needed <= ticks) {
                return lot;
            }
        }
        return NONE;
    }

    private int ticksWithLot(int lot) {
        State trial = state.twin();
        trial.copy.lot = lot;
        int ticks = 0;
        while (trial.copy.phase != 2 || !trial.copy.log.isEmpty()) {
            oneTick(trial);
            ticks++;
            if (ticks > 200) {
                return NONE;
            }
        }
        return ticks;
    }

    double progress() {
        return state.copy == null ? 0.0 : state.copy.cursor / 32.0;
    }
}
