import java.io.IOException;
import java.nio.file.Files;
import java.nio.file.Path;
import java.util.Map;
import java.util.TreeMap;
import java.util.TreeSet;

/** Runs a test for each sentence of the document that names a boundary, and finds the sentence in its part of the document. */
final class Sentences {
    private static final int PROMISES = 26;
    private static final String HEADING = "## ";

    private final Due due;
    /** The document's parts by their headings, such as "Terms" or "Promise 3". */
    private final Map<String, String> parts = new TreeMap<>();
    private final TreeSet<String> tested = new TreeSet<>();
    private int tests = 0;

    Sentences(Due due, Path document) throws IOException {
        this.due = due;
        if (!Files.exists(document)) {
            System.out.println("there is no " + document + ": no sentence is looked up");
            return;
        }
        for (String part : Files.readString(document).split("(?m)^" + HEADING)) {
            int end = part.indexOf('\n');
            String heading = end < 0 ? part : part.substring(0, end);
            parts.put(heading.replaceFirst(":.*", ""), inOneLine(part));
        }
    }

    private static String inOneLine(String text) {
        return text.replaceAll("\\s+", " ").trim();
    }

    void what(String sentence, Runnable test) {
        run("What it is", sentence, test);
    }

    void terms(String sentence, Runnable test) {
        run("Terms", sentence, test);
    }

    void promise(int number, String sentence, Runnable test) {
        run("Promise " + number, sentence, test);
    }

    private void run(String part, String sentence, Runnable test) {
        due.about(part + ", \"" + sentence + "\"");
        if (!parts.isEmpty()) {
            due.holds("the sentence stands in the document", parts.getOrDefault(part, "").contains(inOneLine(sentence)));
        }
        int before = due.asked();
        test.run();
        due.holds("something is asked", due.asked() > before);
        tested.add(part);
        tests++;
    }

    /** Ends the program with exit code 1 if an answer was wrong, or a promise has no test. */
    void end(String test) {
        due.about("tests");
        for (int number = 1; number <= PROMISES; number++) {
            due.holds("there is a test of promise " + number, tested.contains("Promise " + number));
        }
        System.out.println(test + ": " + tests + " sentences");
        due.end(test);
    }
}
