import java.io.IOException;
import java.nio.file.Files;
import java.nio.file.Path;
import java.util.List;
import java.util.regex.Matcher;
import java.util.regex.Pattern;

/** The run of calls that README.md shows: each answer is the one that is written behind it. */
public final class ReadmeTest {
    /** A call, and behind it its answer, which words may follow. */
    private static final Pattern LINE = Pattern.compile("hall\\.(.*\\)); *// ([\\w.-]+)(:.*)?");
    private static final Pattern TWO_CHARACTERS = Pattern.compile("'(.)' << 16 \\| '(.)'");
    private static final Pattern CHARACTER = Pattern.compile("'(.)'");

    public static void main(String[] args) throws IOException {
        Run run = new Run("README.md");
        List<String> lines = Files.readAllLines(Path.of("README.md"));
        int begin = lines.indexOf("```java");
        int end = lines.lastIndexOf("```");
        for (String line : lines.subList(begin + 1, end)) {
            Matcher call = LINE.matcher(line);
            if (call.matches()) {
                run.due(withNumbers(call.group(1)), call.group(2));
            } else if (!line.isEmpty() && !line.equals("KeyHall hall = new KeyHall();")) {
                throw new AssertionError("no call with its answer: " + line);
            }
        }
        Run.finish();
    }

    /** The call with the number in the place of each character or pair of them. */
    private static String withNumbers(String call) {
        String pairless = TWO_CHARACTERS.matcher(call).replaceAll(
                pair -> String.valueOf(code(pair.group(1)) << 16 | code(pair.group(2))));
        return CHARACTER.matcher(pairless).replaceAll(one -> String.valueOf(code(one.group(1))));
    }

    private static int code(String character) {
        return character.charAt(0);
    }
}
