/**
 * Goes through the document with a test for each sentence. What is quoted of a section must be
 * that section, whole and in its order, so that a sentence without a test is found out.
 */
final class Sentences {
    private final Check check;
    private final Document document = new Document();
    private String heading = "";
    private String quoted = "";

    Sentences(Check check) {
        this.check = check;
    }

    void section(String heading) {
        this.heading = heading;
        quoted = "";
    }

    void test(String sentence, Runnable body) {
        quoted += sentence;
        check.about(heading + ", \"" + sentence + "\"");
        int before = check.calls();
        try {
            body.run();
        } catch (RuntimeException e) {
            check.dueText("a call of the test", "throws " + e, "no exception");
        }
        check.due("the test looks at an answer", check.calls() > before ? 1 : 0, 1);
    }

    void endSection() {
        check.about(heading + ", whole");
        check.dueText("what is quoted", pressed(quoted), pressed(sectionText()));
        check.about("");
    }

    /** The section without what FaceTest looks at (the face, in back quotes) and its own marks. */
    private String sectionText() {
        return document.section(heading).replaceAll("```\\w*", "").replaceAll("`[^`]*`:", "")
                .replaceAll("(?m)^[12]\\. ", "");
    }

    private static String pressed(String text) {
        return text.replaceAll("\\s+", "");
    }
}
