import java.io.IOException;
import java.nio.file.Files;
import java.nio.file.Path;
import java.util.List;
import java.util.regex.Matcher;
import java.util.regex.Pattern;

/** What of LANGUAGE.md can be seen in the source's text. The first argument is the source's path. */
public final class RulesTest {
    private static final Check check = new Check("RulesTest");
    private static final String[] NEVER = {
        "->", "::", "\\bcatch\\b", "\\bfinally\\b", "\\bsynchronized\\b", "\\bassert\\b", "\\bpackage\\b", "\\bthrow\\b",
        "\\bprotected\\b", "Exact\\(", "\\bhashCode\\b", "\\btoString\\b", "\\bSystem\\.(?!arraycopy)", "\\bdouble\\b",
        "\\bfloat\\b", "\\bvar\\b", "\\bObject\\b", "\\[\\]\\[\\]\\[\\]", "\\bThread\\b", "\\bRandom\\b", "\\bStream\\b",
        "[^\\x00-\\x7f]"};

    private static void never(String source) {
        for (String pattern : NEVER) {
            Matcher matcher = Pattern.compile(pattern).matcher(source);
            check.due(pattern + " stands in the source", matcher.find() ? 1 : 0, 0);
        }
    }

    private static void imports(List<String> lines) {
        for (String line : lines) {
            if (line.startsWith("import")) {
                boolean known = line.matches("import java\\.util\\.(Arrays|ArrayList|List|Iterator|NoSuchElementException);");
                check.due(line, known ? 1 : 0, 1);
            }
        }
    }

    /** A method begins at a line that ends with ') {' behind an access word, and ends at the brace below it. */
    private static void methodLengths(List<String> lines) {
        for (int at = 0; at < lines.size(); at++) {
            Matcher head = Pattern.compile("^( +)(public|private).*\\) \\{$").matcher(lines.get(at));
            if (head.find()) {
                int end = at;
                while (!lines.get(end).equals(head.group(1) + "}")) {
                    end++;
                }
                check.due("a long method: " + lines.get(at).trim(), end - at <= 60 ? 1 : 0, 1);
            }
        }
    }

    public static void main(String[] args) throws IOException {
        Path path = Path.of(args.length > 0 ? args[0] : "src/main/java/KeyedFeelings.java");
        String source = Files.readString(path);
        never(source);
        imports(Files.readAllLines(path));
        methodLengths(Files.readAllLines(path));
        long classes = Pattern.compile("\\b(class|record|enum|interface) [A-Z]").matcher(source).results().count();
        check.due("classes: " + classes, classes <= 12 ? 1 : 0, 1);
        check.end();
    }
}
