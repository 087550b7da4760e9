import java.io.IOException;
import java.nio.file.Files;
import java.nio.file.Path;
import java.util.HashSet;
import java.util.Set;

/** Each sentence of the document that names a boundary case, in its own words, beside the test that it has alone. */
final class Sentence {
    /** Stands for all that the document says ahead of its promises. */
    static final int TERMS = 0;
    private static final int PROMISES = 30;
    private static final Set<String> quoted = new HashSet<>();

    private Sentence() {
    }

    static void holds(int promise, String words, Runnable test) {
        Check.that("quoted once only: " + key(promise, words), quoted.add(key(promise, words)));
        int before = Check.wrongSoFar();
        try {
            test.run();
        } catch (RuntimeException thrown) {
            Check.that("a call that is not refused threw " + thrown, false);
        }
        if (Check.wrongSoFar() != before) {
            System.out.println("  so this does not hold, " + key(promise, words));
        }
    }

    /** What is quoted stands in the document, and each line there on an argument, an answer or an exception is quoted. */
    static void compareWith(Path document) throws IOException {
        if (!Files.exists(document)) {
            System.out.println("the document is not at " + document + ": the sentences are not compared with it");
            return;
        }
        String[] sections = Files.readString(document).split("(?m)^## (?=Promise |Not promised)");
        Check.same("sections of the document", sections.length, PROMISES + 2);
        for (int promise = TERMS; promise <= PROMISES && promise < sections.length; promise++) {
            compareSection(promise, sections[promise]);
        }
        Check.that("not in the document: " + quoted, quoted.isEmpty());
    }

    private static void compareSection(int promise, String section) {
        for (String line : section.split("\n")) {
            boolean due = line.startsWith("- `") || line.startsWith("Returns ") || line.startsWith("Throws ");
            if (promise != TERMS && due) {
                Check.that("there is a test of " + key(promise, line), quoted.contains(key(promise, line)));
            }
        }
        quoted.removeIf(one -> one.startsWith(key(promise, "")) && section.contains(one.substring(key(promise, "").length())));
    }

    private static String key(int promise, String words) {
        return (promise == TERMS ? "Terms: " : "Promise " + promise + ": ") + words;
    }
}
