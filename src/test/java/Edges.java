import java.io.IOException;
import java.nio.file.Files;
import java.nio.file.Path;

/** What the tests of the document's sentences have in common: each check stands behind its sentence. */
abstract class Edges {
    static final int NONE = -1, BAD = -2, STATE = -3, FULL = -4, NOT = -5, NO_MEND = -100;

    static Checks checks;

    private static final Path DOCUMENT = Path.of("../shared/DOC.md");
    private static String document = "";

    static void begin(String name) throws IOException {
        checks = new Checks(name);
        document = Files.exists(DOCUMENT) ? plain(Files.readString(DOCUMENT)) : "";
    }

    private static String plain(String text) {
        return text.replaceAll("\\s+", " ");
    }

    /** The sentence that the next checks are of: it stands in the document, word by word. */
    static void says(String sentence) {
        checks.about(sentence);
        if (!document.isEmpty()) {
            checks.due("stands in the document", document.contains(plain(sentence)) ? 1 : 0, 1);
        }
    }

    static Asked asked(String... made) {
        return new Asked(checks).does(made);
    }
}
