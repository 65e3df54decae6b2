import java.io.IOException;
import java.net.URL;
import java.net.URLClassLoader;
import java.nio.file.Files;
import java.nio.file.Path;
import java.util.ArrayList;
import java.util.List;
import java.util.Set;
import java.util.TreeSet;
import java.util.regex.Matcher;
import java.util.regex.Pattern;
import java.util.stream.Stream;
import javax.tools.ToolProvider;

/** What README.md says: its examples are compiled and run, its tables held beside what there is. */
public final class ReadmeTest {
    private static final Pattern BLOCK = Pattern.compile("(?s)```java\n(.*?)```");
    private static final Pattern STATEMENT = Pattern.compile("(.*);(?:\\s+// (.*))?");
    private static final Pattern CLAIM = Pattern.compile("(-?\\d+|throws \\w+): .*");
    private static final Pattern CALL_ROW = Pattern.compile("\\| `([^`]*)` \\| (\\d+) \\|.*\\|(.*)\\|");
    private static final Pattern FILE_ROW = Pattern.compile("\\| ([A-Z]\\w*) \\|.*\\|");

    private final Check check = new Check("ReadmeTest");
    private final String page;

    private ReadmeTest(String page) {
        this.page = page;
    }

    public static void main(String[] args) throws Exception {
        ReadmeTest test = new ReadmeTest(Files.readString(Path.of("README.md")));
        test.beginning();
        test.examples();
        test.tableOfCalls();
        test.tablesOfTests();
        test.check.end();
    }

    private void beginning() {
        String[] parts = new Document().section("What it is").strip().split("\n");
        check.due("the document's first sentence", flat(page).contains(flat(parts[0])) ? 1 : 0, 1);
        check.due(".ci/run can be run", Files.isExecutable(Path.of(".ci/run")) ? 1 : 0, 1);
    }

    private static String flat(String text) {
        return text.replaceAll("\\s+", " ");
    }

    private void examples() throws Exception {
        Matcher m = BLOCK.matcher(page);
        int examples = 0;
        while (m.find()) {
            examples++;
            example("ReadmeExample" + examples, m.group(1).split("\n"));
        }
        check.due("there are examples", examples > 0 ? 1 : 0, 1);
    }

    private void example(String name, String[] lines) throws Exception {
        List<String> calls = new ArrayList<>();
        List<String> claims = new ArrayList<>();
        StringBuilder body = new StringBuilder();
        for (String line : lines) {
            Matcher statement = STATEMENT.matcher(line);
            check.due("a statement: " + line, statement.matches() ? 1 : 0, 1);
            String call = statement.group(1);
            String comment = statement.group(2) == null ? "" : statement.group(2);
            Matcher claim = CLAIM.matcher(comment);
            if (!claim.matches()) {
                check.due("told without an answer: " + line, hasAnswer(call) ? 1 : 0, 0);
                body.append(call).append(";\n");
            } else {
                calls.add(call);
                claims.add(claim.group(1));
                body.append(told(call, claim.group(1).startsWith("throws")));
            }
        }
        List<String> answers = answers(name, body.toString());
        check.due(name + ", answers", answers.size(), claims.size());
        for (int i = 0; i < claims.size(); i++) {
            check.dueText(name + ", " + calls.get(i), answers.get(i), claims.get(i));
        }
    }

    private static boolean hasAnswer(String statement) {
        return !statement.contains(" = new ") && !statement.contains(".link(");
    }

    private static String told(String call, boolean throwing) {
        if (!throwing) {
            return "told.add(String.valueOf(" + call + "));\n";
        }
        return "try { " + call + "; told.add(\"throws nothing\"); } catch (RuntimeException e) {"
                + " told.add(\"throws \" + e.getClass().getSimpleName()); }\n";
    }

    private static List<String> answers(String name, String body) throws Exception {
        Path place = Files.createTempDirectory("readme");
        Path file = place.resolve(name + ".java");
        Files.writeString(file, "import java.util.*;\n"
                + "public class " + name + " extends ArrayList<String> {\n"
                + "    static final long serialVersionUID = 1;\n"
                + "    public " + name + "() {\n"
                + "List<String> told = this;\n" + body + "}\n}\n");
        int exit = ToolProvider.getSystemJavaCompiler().run(null, null, null, "-d", place.toString(),
                "-cp", System.getProperty("java.class.path"), file.toString());
        if (exit != 0) {
            throw new IllegalStateException(name + " does not compile");
        }
        List<String> told = new ArrayList<>();
        try (URLClassLoader loader = new URLClassLoader(new URL[] {place.toUri().toURL()})) {
            Object made = loader.loadClass(name).getConstructor().newInstance();
            for (Object one : (List<?>) made) {
                told.add(String.valueOf(one));
            }
        }
        remove(place);
        return told;
    }

    private static void remove(Path directory) throws IOException {
        try (Stream<Path> files = Files.list(directory)) {
            for (Path file : files.toList()) {
                Files.delete(file);
            }
        }
        Files.delete(directory);
    }

    private void tableOfCalls() {
        List<String> due = new ArrayList<>();
        for (Document.Promised one : new Document().promises()) {
            due.add(one.number() + ": " + one.signature() + " throws " + one.thrown());
        }
        List<String> got = new ArrayList<>();
        for (String line : page.split("\n")) {
            Matcher row = CALL_ROW.matcher(line);
            if (row.matches()) {
                got.add(row.group(2) + ": " + row.group(1) + " throws " + row.group(3).strip());
            }
        }
        check.dueText("the table of calls", got.toString(), due.toString());
    }

    private void tablesOfTests() throws IOException {
        Set<String> due = new TreeSet<>();
        try (Stream<Path> files = Files.list(Path.of("src/test/java"))) {
            files.forEach(file -> due.add(file.getFileName().toString().replace(".java", "")));
        }
        Set<String> got = new TreeSet<>();
        for (String line : page.split("\n")) {
            Matcher row = FILE_ROW.matcher(line);
            if (row.matches()) {
                check.due(row.group(1) + " stands in one row", got.add(row.group(1)) ? 1 : 0, 1);
            }
        }
        check.dueText("the tables of tests", got.toString(), due.toString());
    }
}
