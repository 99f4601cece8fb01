import java.io.IOException;
import java.nio.file.Files;
import java.nio.file.Path;
import java.util.ArrayList;
import java.util.HashMap;
import java.util.List;
import java.util.Map;
import java.util.regex.Matcher;
import java.util.regex.Pattern;

/**
 * Each sentence of the Terms and of the promises in ../shared/DOC.md has a test that names it, and each
 * test's words stand in the document. Run it from the project's folder.
 */
public final class SentencesTest {
    private static final Path DOC = Path.of("../shared/DOC.md");
    private static final Path TESTS = Path.of("src/test/java");
    private static final Pattern SAID =
        Pattern.compile("Due\\.(?:term|promise)\\((?:(\\d+), )?((?:\"[^\"]*\"[\\s+]*)+)\\);");
    /** What tells no more than a number, or what stands in the interface alone. */
    private static final String NEEDS_NO_TEST = "\\d\\.|Ahead of the calls .*";

    public static void main(String[] args) throws IOException {
        if (!Files.exists(DOC)) {
            System.out.println("no " + DOC + " here: nothing is compared");
            return;
        }
        Map<String, String> sections = sections(Files.readString(DOC));
        Due.is("sections", sections.size(), 43);
        Map<String, List<String>> said = said();
        for (Map.Entry<String, List<String>> entry : said.entrySet()) {
            String section = sections.getOrDefault(entry.getKey(), "");
            for (String words : entry.getValue()) {
                Due.holds("the document says in " + entry.getKey() + ": " + words, section.contains(words));
            }
        }
        for (Map.Entry<String, String> entry : sections.entrySet()) {
            for (String sentence : sentences(entry.getValue())) {
                Due.holds("a test for " + entry.getKey() + ": " + sentence,
                    isTested(sentence, said.getOrDefault(entry.getKey(), List.of())));
            }
        }
        Due.end();
    }

    private static boolean isTested(String sentence, List<String> said) {
        for (String words : said) {
            if (sentence.contains(words) || words.contains(sentence)) {
                return true;
            }
        }
        return sentence.matches(NEEDS_NO_TEST);
    }

    /** The Terms, and what each promise says, as one line each. */
    private static Map<String, String> sections(String doc) {
        Map<String, String> sections = new HashMap<>();
        for (String section : doc.split("\n## ")) {
            int end = section.indexOf('\n');
            String title = section.substring(0, Math.max(0, end));
            String text = section.substring(end + 1).replace("```text", "").replace("```", "");
            text = text.replaceAll("\\s+", " ").trim();
            if (title.equals("Terms")) {
                sections.put("Terms", text);
            } else if (title.startsWith("Promise ")) {
                String number = title.substring(8, title.indexOf(':'));
                sections.put(number, text.replaceFirst("^`[^`]*`: ", ""));
            }
        }
        return sections;
    }

    private static List<String> sentences(String text) {
        return List.of(text.split("(?<=[^.]\\.\\)?) (?=[A-Z0-9(-])"));
    }

    private static Map<String, List<String>> said() throws IOException {
        Map<String, List<String>> said = new HashMap<>();
        List<Path> files;
        try (var found = Files.list(TESTS)) {
            files = found.filter(f -> f.toString().endsWith("Test.java")).toList();
        }
        for (Path file : files) {
            Matcher m = SAID.matcher(Files.readString(file));
            while (m.find()) {
                String place = m.group(1) == null ? "Terms" : m.group(1);
                String words = m.group(2).trim().replaceAll("\"\\s*\\+\\s*\"", "");
                said.computeIfAbsent(place, p -> new ArrayList<>()).add(words.substring(1, words.length() - 1));
            }
        }
        return said;
    }
}
