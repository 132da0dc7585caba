import java.io.IOException;
import java.nio.file.Files;
import java.nio.file.Path;
import java.util.ArrayList;
import java.util.List;

/** The document, ../shared/DOC.md, cut into what it says at its beginning and in its terms, and its promises. */
final class Document {
    static final int PROMISES = 30;

    private final List<String> general = new ArrayList<>();
    private final List<List<String>> promises = new ArrayList<>();

    Document(Path file) throws IOException {
        for (int promise = 0; promise <= PROMISES; promise++) {
            promises.add(new ArrayList<>());
        }
        List<String> part = null;
        for (String line : Files.readAllLines(file)) {
            if (line.startsWith("## ")) {
                part = partOf(line.substring(3));
            } else if (part != null && !line.isBlank() && !line.startsWith("#") && !line.startsWith("```")) {
                part.add(line.strip());
            }
        }
    }

    /** Null for the parts that promise nothing, and for the face, which has a test of its own. */
    private List<String> partOf(String title) {
        if (title.startsWith("Promise ")) {
            return promises.get(Integer.parseInt(title.substring(8, title.indexOf(':'))));
        }
        return title.equals("What it is") || title.equals("Terms") ? general : null;
    }

    boolean says(int promise, String words) {
        return isIn(promises.get(promise), words) || isIn(general, words);
    }

    private static boolean isIn(List<String> lines, String words) {
        for (String line : lines) {
            if (line.contains(words)) {
                return true;
            }
        }
        return false;
    }

    /** The sentences of a promise, and its parts between semicolons; those of the terms for 0. */
    List<String> clausesOf(int promise) {
        List<String> clauses = new ArrayList<>();
        for (String line : promise == 0 ? general : promises.get(promise)) {
            for (String clause : line.split("(?<=[.;])\\s+")) {
                if (!clause.matches("\\d+\\.")) {
                    clauses.add(clause);
                }
            }
        }
        return clauses;
    }
}
