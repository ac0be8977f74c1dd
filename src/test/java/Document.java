import java.io.IOException;
import java.nio.file.Files;
import java.nio.file.Path;
import java.util.ArrayList;
import java.util.Arrays;
import java.util.LinkedHashMap;
import java.util.List;
import java.util.Map;

/** ../shared/DOC.md by its headings ("Terms 1", "Promise 2"), and which of its words a test has quoted. */
final class Document {
    private static final Path PLACE = Path.of("../shared/DOC.md");

    private final Map<String, StringBuilder> texts = new LinkedHashMap<>();
    private final Map<String, boolean[]> quoted = new LinkedHashMap<>();

    Document() throws IOException {
        String heading = "";
        for (String line : Files.readAllLines(PLACE)) {
            String words = line.strip();
            if (words.startsWith("## ")) {
                heading = words.substring(3).replaceAll(":.*", "");
            } else if (heading.startsWith("Terms") && words.matches("\\d\\. .*")) {
                heading = "Terms " + words.charAt(0);
                words = words.substring(3);
            } else if (words.startsWith("The constants:")) {
                heading = "The constants";
            } else if (words.startsWith("Ahead of the calls")) {
                heading = "The interface";
            }
            if (!words.startsWith("#") && !words.startsWith("```") && !words.isEmpty()) {
                add(heading, words);
            }
        }
        for (String each : texts.keySet()) {
            quoted.put(each, new boolean[texts.get(each).length()]);
        }
    }

    /** A promise's signature is no sentence. */
    private void add(String heading, String words) {
        StringBuilder text = texts.computeIfAbsent(heading, each -> new StringBuilder());
        text.append(text.length() == 0 ? "" : " ");
        text.append(heading.startsWith("Promise") ? words.replaceAll("^`[^`]*`: ", "") : words);
    }

    /** false: the words do not stand under that heading. */
    boolean quote(String heading, String words) {
        int from = texts.containsKey(heading) ? texts.get(heading).indexOf(words) : -1;
        if (from < 0) {
            return false;
        }
        Arrays.fill(quoted.get(heading), from, from + words.length(), true);
        return true;
    }

    /** What of the terms and promises no test has quoted. */
    List<String> unquoted() {
        List<String> left = new ArrayList<>();
        for (String heading : texts.keySet()) {
            if (heading.startsWith("Terms") || heading.startsWith("Promise")) {
                addUnquoted(heading, left);
            }
        }
        return left;
    }

    private void addUnquoted(String heading, List<String> left) {
        StringBuilder run = new StringBuilder();
        boolean[] marks = quoted.get(heading);
        for (int i = 0; i <= marks.length; i++) {
            if (i < marks.length && !marks[i]) {
                run.append(texts.get(heading).charAt(i));
            } else {
                if (!run.toString().isBlank()) {
                    left.add(heading + ": " + run);
                }
                run.setLength(0);
            }
        }
    }
}
