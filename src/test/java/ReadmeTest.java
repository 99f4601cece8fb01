import java.io.IOException;
import java.nio.file.Files;
import java.nio.file.Path;
import java.util.ArrayList;
import java.util.List;
import java.util.regex.Matcher;
import java.util.regex.Pattern;

/**
 * README.md's example stands in example() below, call by call, and each answer that it names is the one that
 * is given. Run it from the project's folder.
 */
public final class ReadmeTest {
    private static final List<String> CALLS = new ArrayList<>();
    private static final List<Integer> ANSWERS = new ArrayList<>();

    public static void main(String[] args) throws IOException {
        example();
        List<String> lines = exampleLines();
        Due.is("calls in README.md", lines.size(), CALLS.size());
        for (int i = 0; i < Math.min(lines.size(), CALLS.size()); i++) {
            String line = lines.get(i);
            int ending = line.indexOf("; // ");
            Due.holds("an answer stands in README.md: " + line, ending >= 0);
            String call = line.substring(0, Math.max(0, ending)).replaceFirst("^int \\w+ = ", "");
            Due.holds("README.md calls " + CALLS.get(i) + ", not " + call, call.equals(CALLS.get(i)));
            Due.is(call, ANSWERS.get(i), answerOf(line.substring(ending + 2)));
        }
        Due.end();
    }

    private static void example() {
        RainShares valley = new RainShares();
        int roof = valley.roof(10);
        call("valley.roof(10)", roof);
        int other = valley.roof(60);
        call("valley.roof(60)", other);
        call("valley.cloud(13, roof)", valley.cloud(13, roof));
        call("valley.then(30, other, 1)", valley.then(30, other, 1));
        call("valley.days(7)", valley.days(7));
        call("valley.ofRoof(roof, 1)", valley.ofRoof(roof, 1));
        call("valley.pay(roof, 9)", valley.pay(roof, 9));
        call("valley.told(3)", valley.told(3));
        call("valley.feed('2' | '0' << 8 | '-' << 16 | 'w' << 24, 4)",
            valley.feed('2' | '0' << 8 | '-' << 16 | 'w' << 24, 4));
        call("valley.text(0)", valley.text(0));
        call("valley.law(0, 3, 8, 0)", valley.law(0, 3, 8, 0));
        call("valley.feed('(', 1)", valley.feed('(', 1));
        call("valley.text(1)", valley.text(1));
        call("valley.sheet(0, 16, 2)", valley.sheet(0, 16, 2));
        call("valley.put(0, 1, 13)", valley.put(0, 1, 13));
        call("valley.fell(0, 1)", valley.fell(0, 1));
        call("valley.image()", valley.image());
        call("valley.days(1)", valley.days(1));
        call("valley.restore()", valley.restore());
        call("valley.ofRoof(other, 2)", valley.ofRoof(other, 2));
    }

    private static void call(String call, int answer) {
        CALLS.add(call);
        ANSWERS.add(answer);
    }

    /** The lines of README.md's example that name an answer. */
    private static List<String> exampleLines() throws IOException {
        String readme = Files.readString(Path.of("README.md"));
        int from = readme.indexOf("```java\n");
        int end = readme.indexOf("\n```", from + 1);
        List<String> lines = new ArrayList<>();
        for (String line : readme.substring(Math.max(0, from), Math.max(0, end)).split("\n")) {
            if (line.contains("//")) {
                lines.add(line.replaceFirst("; +// ", "; // "));
            }
        }
        return lines;
    }

    /** A remark begins with the answer. */
    private static int answerOf(String remark) {
        Matcher answer = Pattern.compile("^// (-?\\d+)\\b").matcher(remark);
        return answer.find() ? Integer.parseInt(answer.group(1)) : Integer.MIN_VALUE;
    }
}
