import java.io.IOException;
import java.nio.file.Files;
import java.nio.file.Path;
import java.util.List;

/** What can be seen of LANGUAGE.md's rules in the program's own lines. Run it from the project's folder. */
public final class RulesTest {
    private static final List<String> BANNED = List.of("throw", "throws", "try", "catch", "synchronized",
        "assert", "import", "package", "var", "record", "equals", "hashCode", "toString", "Object", "System.out",
        "Exact", "protected", "volatile", "native", "while\\s*\\(true", "for\\s*\\(;;", "static\\s*\\{");

    public static void main(String[] args) throws IOException {
        String source = Files.readString(Path.of("src/main/java/RainShares.java"));
        Due.holds("signs 1 to 127", source.chars().allMatch(c -> c >= 1 && c <= 127));
        String code = source.replaceAll("(?s)/\\*.*?\\*/", "").replaceAll("//[^\n]*", "");
        for (String word : BANNED) {
            String pattern = "(?s).*\\b" + word + (word.matches("\\w+") ? "\\b" : "") + ".*";
            Due.holds("no " + word, !code.matches(pattern));
        }
        Due.holds("no lambda, no method reference", !code.contains("->") && !code.contains("::"));
        Due.holds("no text is joined by +", !code.matches("(?s).*(\"\\s*\\+|\\+\\s*\").*"));
        objectsOnlyWithTheObject(code);
        shortMethods(source);
        Due.end();
    }

    /** All rows are made with the object: new stands in fields, and once in the constructor. */
    private static void objectsOnlyWithTheObject(String code) {
        int inConstructor = 0;
        for (String line : code.split("\n")) {
            if (line.matches(".*\\bnew\\b.*") && !line.matches("\\s*(private )?final .*= .*new .*;")) {
                inConstructor++;
                Due.holds("new in: " + line.trim(), line.trim().equals("sheets[i] = new Sheet();"));
            }
        }
        Due.is("objects that are made elsewhere", inConstructor, 1);
    }

    private static void shortMethods(String source) {
        int began = 0;
        String name = "";
        String[] lines = source.split("\n");
        for (int i = 0; i < lines.length; i++) {
            if (lines[i].matches("( {4}| {8})[a-z].*\\) \\{") && !lines[i].contains(" class ")) {
                began = i;
                name = lines[i].trim();
            }
            if (lines[i].matches("( {4}| {8})\\}")) {
                boolean ofAMethod = lines[i].indexOf('}') == lines[began].length() - lines[began].stripLeading().length();
                Due.holds("some sixty lines: " + name, !ofAMethod || i - began <= 62);
            }
        }
    }
}
