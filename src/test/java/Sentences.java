import java.io.IOException;
import java.nio.file.Files;
import java.nio.file.Path;

/**
 * Goes through the document with a test for each sentence. What is quoted of a section must be
 * that section, whole and in its order, so that a sentence without a test is found out.
 */
final class Sentences {
    private static final Path DOCUMENT = Path.of("../shared/DOC.md");

    private final Check check;
    private final String document;
    private String heading = "";
    private String quoted = "";

    Sentences(Check check) {
        this.check = check;
        document = read();
    }

    private static String read() {
        try {
            return Files.readString(DOCUMENT);
        } catch (IOException e) {
            throw new IllegalStateException("no document at " + DOCUMENT, e);
        }
    }

    void section(String heading) {
        this.heading = heading;
        quoted = "";
    }

    void test(String sentence, Runnable body) {
        quoted += sentence;
        check.about(heading + ", \"" + sentence + "\"");
        int before = check.calls();
        try {
            body.run();
        } catch (RuntimeException e) {
            check.dueText("a call of the test", "throws " + e, "no exception");
        }
        check.due("the test looks at an answer", check.calls() > before ? 1 : 0, 1);
    }

    void endSection() {
        check.about(heading + ", whole");
        check.dueText("what is quoted", pressed(quoted), pressed(sectionText()));
        check.about("");
    }

    /** The section without what FaceTest looks at (the face, in back quotes) and its own marks. */
    private String sectionText() {
        int begin = document.indexOf("## " + heading);
        int end = document.indexOf("\n## ", begin + 1);
        if (begin < 0 || end < 0) {
            return "no section " + heading;
        }
        String text = document.substring(document.indexOf('\n', begin), end);
        return text.replaceAll("```\\w*", "").replaceAll("`[^`]*`:", "")
                .replaceAll("(?m)^[12]\\. ", "");
    }

    private static String pressed(String text) {
        return text.replaceAll("\\s+", "");
    }
}
