import java.io.IOException;
import java.nio.file.Files;
import java.nio.file.Path;
import java.util.ArrayList;
import java.util.List;
import java.util.Set;
import java.util.regex.Matcher;
import java.util.regex.Pattern;

/** What can be seen of LANGUAGE.md's rules by reading the program's text. */
public final class LanguageTest {
    private static final Path SOURCE = Path.of("src/main/java/RenameMerge.java");
    private static final Set<String> IMPORTS =
            Set.of("java.util.Arrays", "java.util.ArrayList", "java.util.List", "java.util.Iterator");
    private static final Set<String> LIBRARY = Set.of("Arrays.fill", "Arrays.copyOf", "Arrays.copyOfRange",
            "Math.min", "Math.max", "Math.abs", "System.arraycopy");
    private static final String REFUSED = "throw|throws|try|catch|finally|synchronized|assert|package|volatile"
            + "|transient|native|strictfp|goto|var|yield|Object|Thread|Random|Runtime|hashCode|toString"
            + "|protected|getClass";
    private static final int MOST_LINES_OF_A_METHOD = 60;
    private static final int MOST_PARAMETERS = 7;

    public static void main(String[] args) throws IOException {
        Check check = new Check();
        String code = withoutComments(Files.readString(SOURCE));
        check.due("imports", refusedImports(code), List.of());
        check.due("words", found("\\b(" + REFUSED + ")\\b", code), List.of());
        check.due("lambdas and method references", found("->|::", code), List.of());
        check.due("static state", found("static (?!final )\\w+(\\[\\])* \\w+ *[=;]", code), List.of());
        check.due("static blocks", found("static\\s*\\{", code), List.of());
        check.due("endless loops", found("while \\(true\\)|for \\([^;)]*; *;", code), List.of());
        check.due("library calls", refusedCalls(code), List.of());
        check.due("long methods or many parameters", largeMethods(code), List.of());
        check.due("characters beyond 255", code.chars().allMatch(c -> c <= 255), true);
        check.end();
    }

    private static String withoutComments(String text) {
        return text.replaceAll("(?s)/\\*.*?\\*/", "").replaceAll("//[^\n]*", "");
    }

    private static List<String> found(String pattern, String code) {
        List<String> list = new ArrayList<>();
        Matcher matcher = Pattern.compile(pattern).matcher(code);
        while (matcher.find()) {
            list.add(matcher.group());
        }
        return list;
    }

    private static List<String> refusedImports(String code) {
        List<String> list = new ArrayList<>();
        for (String line : found("(?m)^import .*;", code)) {
            if (!IMPORTS.contains(line.substring("import ".length(), line.length() - 1))) {
                list.add(line);
            }
        }
        return list;
    }

    private static List<String> refusedCalls(String code) {
        List<String> list = found("\\b(Arrays|Math|System|Integer|Long|Character|Objects)\\.\\w+", code);
        list.removeAll(LIBRARY);
        return list;
    }

    private static List<String> largeMethods(String code) {
        List<String> list = new ArrayList<>();
        Matcher head = Pattern.compile("(?m)^( +)(?:[\\w\\[\\]]+ )*\\w+\\(([^()]*)\\) \\{$").matcher(code);
        while (head.find()) {
            int end = code.indexOf("\n" + head.group(1) + "}", head.end());
            long lines = code.substring(head.start(), end).lines().count() + 1;
            if (lines > MOST_LINES_OF_A_METHOD || head.group(2).split(",").length > MOST_PARAMETERS) {
                list.add(head.group());
            }
        }
        return list;
    }
}
