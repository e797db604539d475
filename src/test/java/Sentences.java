import java.io.IOException;
import java.nio.file.Files;
import java.nio.file.Path;

/** For the tests of single sentences of the document: each says the one it stands for. */
final class Sentences {
    private static final Path DOCUMENT = Path.of("../shared/DOC.md");
    private final Checks checks;
    private final String document;

    Sentences(Checks checks) {
        this.checks = checks;
        document = document();
    }

    /** The words must stand in the document, so that a test can't go on for a sentence that has gone. */
    void of(String heading, String words) {
        checks.about(heading + ": \"" + words + '"');
        checks.holds("that this is what the document says", document.isEmpty() || section(heading).contains(words));
    }

    private String section(String heading) {
        for (String section : document.split("## ")) {
            if (section.startsWith(heading + ":") || section.startsWith(heading + " ")) {
                return section;
            }
        }
        return "";
    }

    private static String document() {
        try {
            return Files.readString(DOCUMENT).replaceAll("\\s+", " ");
        } catch (IOException missing) {
            System.out.println("no " + DOCUMENT + ": what the tests say of it was not looked up");
            return "";
        }
    }
}
