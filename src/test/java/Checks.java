import java.util.function.IntSupplier;

/** Counts the answers that are not as due, and prints each of them. */
final class Checks {
    private final String name;
    private int made;
    private int wrong;

    Checks(String name) {
        this.name = name;
    }

    void due(String what, long got, long want) {
        dueText(what, Long.toString(got), Long.toString(want));
    }

    void dueDouble(String what, double got, double want) {
        dueText(what, Double.toString(got), Double.toString(want));
    }

    void dueText(String what, String got, String want) {
        made++;
        if (!got.equals(want)) {
            wrong++;
            System.out.println(name + ": " + what + " answered " + got + ", due is " + want);
        }
    }

    /** A call that answers this, and behind which each query answers as before. */
    void unchanged(String what, ShadowTable table, IntSupplier call, long want) {
        String before = Picture.of(table);
        due(what, call.getAsInt(), want);
        dueText("the picture behind " + what, Picture.of(table), before);
    }

    /** Ends the test, with exit code 1 if an answer was wrong. */
    void end() {
        System.out.println(name + ": " + made + " answers, " + wrong + " not as due");
        if (wrong != 0 || made == 0) {
            System.exit(1);
        }
    }
}
