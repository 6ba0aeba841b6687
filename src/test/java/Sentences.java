import java.util.ArrayList;
import java.util.LinkedHashMap;
import java.util.List;
import java.util.Map;
import java.util.regex.Matcher;
import java.util.regex.Pattern;

/** The document by its sections, and which of its words a test has quoted. */
final class Sentences {
    /** What the document promises nothing by: its own marks, and where the interface says what. */
    private static final Pattern MARKS = Pattern.compile("==== \\d |`{3}text|`{3}|`[^`]*`:|Ahead of the calls.*?interface says: -{4} "
        + "(1 people\\.|what is done\\.|2 foretold\\.|)");

    private final Map<String, String> sections = new LinkedHashMap<>();
    private final Map<String, boolean[]> quoted = new LinkedHashMap<>();

    Sentences(String document) {
        for (String part : document.split("(?m)^## ")) {
            int end = part.indexOf('\n');
            String title = part.substring(0, Math.max(0, end)).replaceAll(":.*", "").trim();
            String text = part.substring(end + 1).replaceAll("\\s+", " ");
            sections.put(title, MARKS.matcher(text).replaceAll(found -> " ".repeat(found.group().length())));
            quoted.put(title, new boolean[text.length()]);
        }
    }

    /** Whether the section says so, word by word; all places where it does count as quoted. */
    boolean quote(String section, String words) {
        String text = sections.getOrDefault(section, "");
        boolean stands = false;
        for (int at = text.indexOf(words); at >= 0; at = text.indexOf(words, at + 1)) {
            stands = true;
            java.util.Arrays.fill(quoted.get(section), at, at + words.length(), true);
        }
        return stands;
    }

    /** What of the terms and of the promises no test has quoted, by rows of words. */
    List<String> unquoted() {
        List<String> left = new ArrayList<>();
        for (String section : sections.keySet()) {
            if (section.equals("Terms") || section.startsWith("Promise ")) {
                unquotedOf(section, left);
            }
        }
        return left;
    }

    private void unquotedOf(String section, List<String> left) {
        String text = sections.get(section);
        StringBuilder open = new StringBuilder();
        for (int at = 0; at < text.length(); at++) {
            open.append(quoted.get(section)[at] ? '\n' : text.charAt(at));
        }
        Matcher rows = Pattern.compile("[^\\n]*\\w[^\\n]*").matcher(open);
        while (rows.find()) {
            left.add(section + ": " + rows.group().trim());
        }
    }

    int promises() {
        return (int) sections.keySet().stream().filter(title -> title.startsWith("Promise ")).count();
    }
}
