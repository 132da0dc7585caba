import java.io.IOException;
import java.nio.file.Files;
import java.nio.file.Path;
import java.util.ArrayList;
import java.util.List;

/** Each sentence of the document is quoted by a test, and each test quotes what the document says. */
public final class CoverageTest {
    /** What the document says of other things than answers: FaceTest has the constants. */
    private static final String[] NOT_OF_ANSWERS = {
        "A table that is changed while it is used", "`NO_SUCH = -1`", "`BAD_VALUE = -2`", "`TOO_MANY = -3`",
        "`NOT_POSSIBLE = -4`", "`NONE = -5`", "`STEPS = 0", "`LIVE = 0", "Ahead of the calls", "The constants:",
        "what later calls answer is free", "There are the settings", "Locks, swaps", "A script is written as follows",
    };

    private final Checks checks = new Checks("CoverageTest");
    private final List<Sentences.Test> tests = new ArrayList<>();
    private final Document document;

    private CoverageTest(Document document) {
        this.document = document;
        Sentences[] all = {
            new RowsTest(), new CopyTest(), new TickTest(), new SettingsTest(), new TextTest(), new RunTest(),
            new HistoryTest(), new QueriesTest(), new ForecastTest(),
        };
        for (Sentences each : all) {
            tests.addAll(each.told());
        }
    }

    public static void main(String[] arguments) throws IOException {
        Path file = Path.of("..", "shared", "DOC.md");
        if (!Files.exists(file)) {
            // This compares the tests with the document, and says nothing of the program.
            System.out.println("CoverageTest: there is no " + file + ", so no quotation is compared");
            return;
        }
        CoverageTest coverage = new CoverageTest(new Document(file));
        coverage.testsQuoteTheDocument();
        coverage.namesDiffer();
        for (int promise = 0; promise <= Document.PROMISES; promise++) {
            coverage.isQuoted(promise);
        }
        coverage.checks.end();
    }

    private void testsQuoteTheDocument() {
        for (Sentences.Test test : tests) {
            checks.begin(test.name());
            checks.due("whether the document says so", document.says(test.promise(), test.words()) ? 1 : 0, 1);
        }
    }

    private void namesDiffer() {
        checks.begin("names of tests");
        long names = tests.stream().map(Sentences.Test::name).distinct().count();
        checks.due("the number of different names", names, tests.size());
    }

    /** The promise 0 stands for the terms, whose sentences belong to any promise. */
    private void isQuoted(int promise) {
        checks.begin(promise == 0 ? "terms" : "promise " + promise);
        List<String> clauses = document.clausesOf(promise);
        checks.due("whether there are clauses", clauses.isEmpty() ? 0 : 1, 1);
        for (String clause : clauses) {
            checks.due("whether a test quotes '" + clause + "'", hasTest(promise, clause) ? 1 : 0, 1);
        }
    }

    private boolean hasTest(int promise, String clause) {
        for (String other : NOT_OF_ANSWERS) {
            if (clause.contains(other)) {
                return true;
            }
        }
        for (Sentences.Test test : tests) {
            boolean belongs = promise == 0 || test.promise() == promise;
            if (belongs && (clause.contains(test.words()) || test.words().contains(clause))) {
                return true;
            }
        }
        return false;
    }
}
