/** Counts the answers that are not as due, and prints each of them. */
final class Checks {
    /** Far above what any test needs: a call that doesn't end must not hold up the others for ever. */
    private static final long MOST_MILLISECONDS = 300_000;

    private final String name;
    private String part = "";
    private int made;
    private int wrong;

    Checks(String name) {
        this.name = name;
        Thread watch = new Thread(this::stopLateTest);
        watch.setDaemon(true);
        watch.start();
    }

    /** What the next answers belong to. */
    void begin(String newPart) {
        part = newPart;
    }

    void due(String what, long got, long want) {
        dueText(what, Long.toString(got), Long.toString(want));
    }

    void dueDouble(String what, double got, double want) {
        dueText(what, Double.toString(got), Double.toString(want));
    }

    void dueText(String what, String got, String want) {
        made++;
        if (!got.equals(want)) {
            fail(what + " answered " + got + ", due is " + want);
        }
    }

    void fail(String why) {
        wrong++;
        System.out.println(name + ": " + part + ": " + why);
    }

    /** Ends the test, with exit code 1 if an answer was wrong. */
    void end() {
        System.out.println(name + ": " + made + " answers, " + wrong + " not as due");
        if (wrong != 0 || made == 0) {
            System.exit(1);
        }
    }

    private void stopLateTest() {
        try {
            Thread.sleep(MOST_MILLISECONDS);
        } catch (InterruptedException ended) {
            return;
        }
        System.out.println(name + ": " + part + ": does not end");
        Runtime.getRuntime().halt(1);
    }
}
