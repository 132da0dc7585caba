import java.io.IOException;
import java.lang.reflect.Method;
import java.lang.reflect.Modifier;
import java.nio.file.DirectoryStream;
import java.nio.file.Files;
import java.nio.file.Path;
import java.util.ArrayList;
import java.util.Arrays;
import java.util.List;
import java.util.regex.Matcher;
import java.util.regex.Pattern;

/** README.md's examples answer what they say, and it names each call and each test. */
public final class ReadmeTest {
    private static final String BEGINNING = "ShadowTable x = new ShadowTable();";
    private static final Pattern WRITE = Pattern.compile("write\\(x, \"([^\"]*)\"\\);");
    /** A call, its arguments, and behind it what it answers, perhaps with a reason. */
    private static final Pattern CALL = Pattern.compile("x\\.(\\w+)\\(([^)]*)\\);\\s+// (-?[\\w.]+)(: .*)?");

    private final Checks checks = new Checks("ReadmeTest");
    private final List<String> lines;
    private ShadowTable table;
    private int examples;
    private int calls;

    private ReadmeTest(List<String> lines) {
        this.lines = lines;
    }

    public static void main(String[] arguments) throws IOException, ReflectiveOperationException {
        ReadmeTest readme = new ReadmeTest(Files.readAllLines(Path.of("README.md")));
        readme.examplesAnswerWhatTheySay();
        readme.eachCallIsNamed();
        readme.eachTestIsNamed();
        readme.checks.end();
    }

    private void examplesAnswerWhatTheySay() throws ReflectiveOperationException {
        checks.begin("examples");
        for (String line : lines) {
            if (line.equals(BEGINNING)) {
                table = new ShadowTable();
                examples++;
            } else if (line.startsWith("```")) {
                table = null;
            } else if (table != null) {
                followLine(line);
            }
        }
        checks.due("whether there are examples", examples > 0 && calls > 0 ? 1 : 0, 1);
    }

    private void followLine(String line) throws ReflectiveOperationException {
        Matcher write = WRITE.matcher(line);
        Matcher call = CALL.matcher(line);
        if (write.matches()) {
            write.group(1).chars().forEach(table::append);
        } else if (call.matches()) {
            calls++;
            checks.dueText(line, answerOf(call.group(1), call.group(2)), plain(call.group(3)));
        } else {
            checks.fail("a line of an example that is no call: " + line);
        }
    }

    private String answerOf(String name, String arguments) throws ReflectiveOperationException {
        List<Integer> numbers = new ArrayList<>();
        if (!arguments.isEmpty()) {
            for (String argument : arguments.split(", ")) {
                numbers.add(Integer.valueOf(plain(argument.replace("ShadowTable.", ""))));
            }
        }
        Class<?>[] types = new Class<?>[numbers.size()];
        Arrays.fill(types, int.class);
        return ShadowTable.class.getMethod(name, types).invoke(table, numbers.toArray()).toString();
    }

    /** A number as it is; the number of a constant for its name. */
    private static String plain(String word) throws ReflectiveOperationException {
        boolean isName = Character.isLetter(word.charAt(0));
        return isName ? ShadowTable.class.getField(word).get(null).toString() : word;
    }

    private void eachCallIsNamed() {
        checks.begin("calls");
        for (Method method : ShadowTable.class.getDeclaredMethods()) {
            if (Modifier.isPublic(method.getModifiers())) {
                isInATable("`" + method.getName() + "`");
            }
        }
    }

    private void eachTestIsNamed() throws IOException {
        checks.begin("tests");
        try (DirectoryStream<Path> files = Files.newDirectoryStream(Path.of("src/test/java"), "*Test.java")) {
            for (Path file : files) {
                isInATable("`" + file.getFileName().toString().replace(".java", "") + "`");
            }
        }
    }

    private void isInATable(String word) {
        boolean isNamed = lines.stream().anyMatch(line -> line.startsWith("|") && line.contains(word));
        checks.due("whether a table names " + word, isNamed ? 1 : 0, 1);
    }
}
