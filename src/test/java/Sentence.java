import java.io.IOException;
import java.nio.file.Files;
import java.nio.file.Path;

/** The sentences of the document that name an edge: each is told ahead of the checks that hold it. */
final class Sentence {
    private static final Path DOCUMENT = Path.of("../shared/DOC.md");

    private static String document = null;
    private static String told = "";
    private static int checkedAhead = 0;
    private static int count = 0;

    private Sentence() {
    }

    /** Begins the test of a sentence; its words have to stand in the document, if that is at hand. */
    static void says(String words) {
        close();
        told = words;
        count++;
        checkedAhead = Bench.checked;
        Bench.sentence = words;
        if (!document().isEmpty() && !document().contains(words)) {
            Bench.wrong++;
            System.out.println("the document does not say: " + words);
        }
    }

    private static void close() {
        if (count > 0 && Bench.checked == checkedAhead) {
            Bench.wrong++;
            System.out.println("nothing is checked of: " + told);
        }
    }

    static void end() {
        close();
        System.out.println(count + " sentences");
        Bench.end();
    }

    private static String document() {
        if (document == null) {
            try {
                document = Files.exists(DOCUMENT) ? Files.readString(DOCUMENT).replaceAll("\\s+", " ") : "";
            } catch (IOException e) {
                document = "";
            }
        }
        return document;
    }
}
