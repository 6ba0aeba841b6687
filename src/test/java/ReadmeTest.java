import java.io.IOException;
import java.nio.file.Files;
import java.nio.file.Path;
import java.util.Arrays;
import java.util.List;
import java.util.regex.Matcher;
import java.util.regex.Pattern;

/** What README.md says of the calls is so. The third argument is its path. */
public final class ReadmeTest {
    private static final Pattern TYPED = Pattern.compile("\"([^\"]*)\"\\.toCharArray\\(\\)");
    private static final Pattern CALL = Pattern.compile("close\\.(\\w+)\\(([-\\d, ]*)\\); +// (-?\\d+):.*");

    private static final Check check = new Check("ReadmeTest");

    private static void type(KeyedFeelings x, String text) {
        for (int i = 0; i < text.length(); i++) {
            x.type(text.charAt(i));
        }
    }

    private static int[] numbers(String text) {
        return text.isEmpty() ? new int[0] : Arrays.stream(text.split(", *")).mapToInt(Integer::parseInt).toArray();
    }

    /** Each line with an answer behind it is played, on one object, as a reader would. */
    private static void example(List<String> lines) {
        KeyedFeelings x = new KeyedFeelings();
        Calls calls = new Calls(x);
        int played = 0;
        for (String line : lines) {
            Matcher typed = TYPED.matcher(line);
            Matcher call = CALL.matcher(line);
            if (typed.find()) {
                type(x, typed.group(1));
            } else if (call.matches()) {
                int number = Arrays.asList(Calls.NAMES).indexOf(call.group(1));
                check.due("README.md: " + line, calls.answer(number, numbers(call.group(2)), 0L),
                    Integer.parseInt(call.group(3)));
                played++;
            } else {
                check.due("a call without its answer: " + line, line.startsWith("close.") ? 1 : 0, 0);
            }
        }
        check.due("some calls are played: " + played, played >= 10 ? 1 : 0, 1);
    }

    private static void allIsNamed(String text) {
        for (String name : Calls.NAMES) {
            check.due("README.md names " + name, text.contains("`" + name + "`") ? 1 : 0, 1);
        }
        for (String name : List.of("BAD", "NOT", "FULL", "NONE", "NULL", "CAST", "INDEX", "SIZE")) {
            check.due("README.md names " + name, text.contains("`" + name + "`") ? 1 : 0, 1);
        }
        check.due("README.md says how its tests are run", text.contains("    .ci/run\n") ? 1 : 0, 1);
    }

    public static void main(String[] args) throws IOException {
        Path path = Path.of(args.length > 2 ? args[2] : "README.md");
        example(Files.readAllLines(path));
        allIsNamed(Files.readString(path));
        check.end();
    }
}
