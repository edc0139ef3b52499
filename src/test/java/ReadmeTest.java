import java.io.IOException;
import java.net.URL;
import java.net.URLClassLoader;
import java.nio.file.Files;
import java.nio.file.Path;
import java.util.HashMap;
import java.util.List;
import java.util.Map;
import java.util.regex.Matcher;
import java.util.regex.Pattern;
import java.util.stream.Stream;
import javax.tools.ToolProvider;

/**
 * README.md tells the class as the document does: every promise with its method and its words, the
 * values of the constants, the codes, how the tests are run; and its example answers what it says.
 */
public final class ReadmeTest {
    private static final Check CHECK = new Check();
    private static final List<String> CODES =
            List.of("CONTENT", "ADDED", "DROPPED", "KINDS", "GONE", "TWICE", "ONTO", "DIRECTORY");

    public static void main(String[] args) throws Exception {
        List<String> readme = Files.readAllLines(Path.of("README.md"));
        Map<String, String[]> rows = tableRows(readme);
        tellsThePromises(rows);
        tellsConstantsAndCodes(rows);
        tellsEveryTest(String.join("\n", readme));
        showsTrueAnswers(String.join("\n", readme));
        CHECK.end();
    }

    /** The rows of all tables, each by what stands in its first cell. */
    private static Map<String, String[]> tableRows(List<String> lines) {
        Map<String, String[]> rows = new HashMap<>();
        for (String line : lines) {
            if (line.startsWith("| ")) {
                String[] cells = line.substring(2).split(" *\\| *");
                rows.put(cells[0].replace("`", ""), cells);
            }
        }
        return rows;
    }

    private static void tellsThePromises(Map<String, String[]> rows) throws IOException {
        String document = Files.readString(Path.of("../shared/DOC.md")).replaceAll("\\s+", " ");
        Matcher promise = Pattern.compile("## Promise (\\d+): [^`]*`([^`]*)`: (.*?) (?=## )").matcher(document);
        int count = 0;
        while (promise.find()) {
            count++;
            String[] row = rows.getOrDefault(promise.group(2), new String[] {"no row"});
            CHECK.due("promise " + promise.group(1), row[row.length - 1], promise.group(3));
        }
        CHECK.due("the number of promises", count, 18);
    }

    private static void tellsConstantsAndCodes(Map<String, String[]> rows) {
        CHECK.due("NONE", rows.get("NONE")[1], "`" + RenameMerge.NONE + "`");
        CHECK.due("SPLIT", rows.get("SPLIT")[1], "`" + RenameMerge.SPLIT + "`");
        for (int i = 0; i < CODES.size(); i++) {
            String[] row = rows.getOrDefault(String.valueOf(1 << i), new String[] {"", "no row"});
            CHECK.due("code " + (1 << i), row[1], CODES.get(i));
        }
    }

    private static void tellsEveryTest(String readme) throws IOException {
        CHECK.due("how all tests are run", readme.contains("\n.ci/run\n"), true);
        try (Stream<Path> files = Files.list(Path.of("src/test/java"))) {
            files.map(file -> file.getFileName().toString().replace(".java", ""))
                    .filter(name -> name.endsWith("Test"))
                    .forEach(name -> CHECK.due(name + " is told of", readme.contains("`" + name + "`"), true));
        }
    }

    /** Where a line of the example takes an answer, its comment begins with the one that is due. */
    private static void showsTrueAnswers(String readme) throws Exception {
        int begin = readme.indexOf("```java\n") + "```java\n".length();
        String example = readme.substring(begin, readme.indexOf("```", begin));
        Matcher answer = Pattern.compile("(?m)^(int|boolean) (\\w+) = (.*?); +// ([^:\n]+):.*$").matcher(example);
        CHECK.due("answers in the example", answer.results().count() > 9, true);
        String body = answer.replaceAll("$1 $2 = $3; list.add(\"$2 = \" + $2); list.add(\"$2 = \" + $4);");
        String program = "class Example { static java.util.List<String> answers() {"
                + " java.util.List<String> list = new java.util.ArrayList<>();\n" + body + "return list; } }";
        List<?> answers = run(program);
        for (int i = 0; i < answers.size(); i += 2) {
            CHECK.due("the example", answers.get(i), answers.get(i + 1));
        }
    }

    private static List<?> run(String program) throws Exception {
        Path directory = Files.createTempDirectory("example");
        Path source = directory.resolve("Example.java");
        Files.writeString(source, program);
        int failed = ToolProvider.getSystemJavaCompiler().run(null, null, null, "-d", directory.toString(),
                "-cp", System.getProperty("java.class.path"), source.toString());
        CHECK.due("the example does not compile", failed, 0);
        try (URLClassLoader loader = new URLClassLoader(new URL[] {directory.toUri().toURL()})) {
            var method = loader.loadClass("Example").getDeclaredMethod("answers");
            method.setAccessible(true);
            return (List<?>) method.invoke(null);
        } finally {
            try (Stream<Path> files = Files.list(directory)) {
                files.forEach(file -> file.toFile().delete());
            }
            Files.delete(directory);
        }
    }
}
