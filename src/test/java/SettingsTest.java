/** Promises 10, 25 and 26: settings and totals. */
public final class SettingsTest {
    private static final Checks CHECKS = new Checks("SettingsTest");

    public static void main(String[] args) {
        promise10Set();
        promise10SetTakesEffect();
        promise25Setting();
        promise26Total();
        CHECKS.end();
    }

    private static void promise10Set() {
        ShadowTable x = new ShadowTable();
        int[] first = {3, 6, 5, 0};
        int[] least = {1, 0, 1, 0};
        int[] most = {8, 24, 20, 1};
        for (int setting = 0; setting < 4; setting++) {
            int which = setting;
            CHECKS.due("set " + setting + " to its least", x.set(setting, least[setting]), first[setting]);
            CHECKS.due("set " + setting + " to its most", x.set(setting, most[setting]), least[setting]);
            CHECKS.due("set " + setting + " to the same", x.set(setting, most[setting]), most[setting]);
            CHECKS.unchanged("set " + setting + " below", x, () -> x.set(which, least[which] - 1),
                ShadowTable.BAD_VALUE);
            CHECKS.unchanged("set " + setting + " above", x, () -> x.set(which, most[which] + 1),
                ShadowTable.BAD_VALUE);
            CHECKS.unchanged("set " + setting + " far off", x, () -> x.set(which, Integer.MIN_VALUE),
                ShadowTable.BAD_VALUE);
        }
        for (int setting = 0; setting < 4; setting++) {
            CHECKS.due("setting " + setting, x.setting(setting), most[setting]);
        }
        int[] bad = {-1, 4, Integer.MIN_VALUE, Integer.MAX_VALUE};
        for (int setting : bad) {
            CHECKS.unchanged("set " + setting, x, () -> x.set(setting, 1), ShadowTable.NO_SUCH);
            CHECKS.unchanged("set " + setting + " wrongly", x, () -> x.set(setting, -1), ShadowTable.NO_SUCH);
        }
        ShadowTable y = new ShadowTable();
        y.set(ShadowTable.LAG, 6);
        CHECKS.due("set is an action, even if nothing changes", y.states(), 1);
    }

    private static void promise10SetTakesEffect() {
        ShadowTable x = Setups.withLog(20);
        x.set(ShadowTable.STEPS, 8);
        x.tick(1);
        CHECKS.due("STEPS 8", x.copy(4), 12);
        CHECKS.due("throttled", x.total(4), 1);
        x.set(ShadowTable.STEPS, 1);
        x.set(ShadowTable.LAG, 11);
        x.tick(1);
        CHECKS.due("STEPS 1", x.copy(4), 11);
        CHECKS.due("LAG 11", x.total(4), 1);
        CHECKS.due("a row was passed", x.copy(3), 1);
    }

    private static void promise25Setting() {
        ShadowTable x = new ShadowTable();
        x.set(ShadowTable.STEPS, 4);
        x.set(ShadowTable.LAG, 20);
        x.set(ShadowTable.PATIENCE, 11);
        x.set(ShadowTable.STRICT, 1);
        CHECKS.due("STEPS", x.setting(ShadowTable.STEPS), 4);
        CHECKS.due("LAG", x.setting(ShadowTable.LAG), 20);
        CHECKS.due("PATIENCE", x.setting(ShadowTable.PATIENCE), 11);
        CHECKS.due("STRICT", x.setting(ShadowTable.STRICT), 1);
        int[] bad = {-1, 4, Integer.MIN_VALUE, Integer.MAX_VALUE};
        for (int setting : bad) {
            CHECKS.unchanged("setting " + setting, x, () -> x.setting(setting), ShadowTable.NO_SUCH);
        }
    }

    private static void promise26Total() {
        ShadowTable x = Setups.withRows(5);
        x.begin(3, 8);
        for (int key = 0; key < 11; key++) {
            x.put(key, 2 * key);
        }
        // 8, 5, 2 and 0 entries are left: the copy is throttled once, and then copies the keys 6 and 7, 9 and 10.
        x.tick(4);
        x.lock();
        x.tick(6);
        x.lock();
        x.swap();
        x.begin(0, 8);
        x.tick(1);
        x.giveUp();
        x.begin(0, 1);
        for (int put = 0; put < 25; put++) {
            x.put(0, put);
        }
        x.tick(2);
        int[] due = {3, 1, 2, 1, 1, 11, 12, 13};
        for (int what = 0; what < 8; what++) {
            CHECKS.due("total " + what, x.total(what), due[what]);
        }
        int[] bad = {-1, 8, Integer.MIN_VALUE, Integer.MAX_VALUE};
        for (int what : bad) {
            CHECKS.unchanged("total " + what, x, () -> x.total(what), ShadowTable.NO_SUCH);
        }
    }
}
