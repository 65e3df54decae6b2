import java.io.IOException;
import java.nio.file.Files;
import java.nio.file.Path;
import java.util.ArrayList;
import java.util.List;
import java.util.regex.Matcher;
import java.util.regex.Pattern;

/** The document that the class keeps to, in parts. */
final class Document {
    private static final Path PLACE = Path.of("../shared/DOC.md");
    private static final Pattern MEMBER = Pattern.compile("(?m)^ +public (.*);$");
    private static final Pattern PROMISE = Pattern.compile("## Promise (\\d+): .*\\s+`([^`]*)`:");

    /** A member of the face as its promise tells it. */
    record Promised(int number, String member) {
        String signature() {
            return member.replaceAll(" throws .*", "");
        }

        String thrown() {
            return member.contains(" throws ") ? member.replaceAll(".* throws ", "") : "";
        }
    }

    private final String text;

    Document() {
        try {
            text = Files.readString(PLACE);
        } catch (IOException e) {
            throw new IllegalStateException("no document at " + PLACE, e);
        }
    }

    /** What stands below a heading (of which the first words are enough), up to the next one. */
    String section(String heading) {
        int begin = text.indexOf("\n## " + heading);
        int end = text.indexOf("\n## ", begin + 1);
        if (begin < 0) {
            return "no section " + heading;
        }
        return text.substring(text.indexOf('\n', begin + 1), end < 0 ? text.length() : end);
    }

    /** The members of "The public face", as in: int free(). */
    List<String> face() {
        List<String> members = new ArrayList<>();
        Matcher m = MEMBER.matcher(section("The public face"));
        while (m.find()) {
            members.add(m.group(1));
        }
        return members;
    }

    List<Promised> promises() {
        List<Promised> all = new ArrayList<>();
        Matcher m = PROMISE.matcher(text);
        while (m.find()) {
            all.add(new Promised(Integer.parseInt(m.group(1)), m.group(2)));
        }
        return all;
    }
}
