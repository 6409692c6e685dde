import java.io.IOException;
import java.nio.file.Files;
import java.nio.file.Path;
import java.util.ArrayList;
import java.util.List;
import java.util.regex.Matcher;
import java.util.regex.Pattern;

/** README.md: its calls answer what stands behind them there. */
public final class ReadmeTest {
    private static final Pattern BLOCK = Pattern.compile("(?s)```java\\n(.*?)```");
    private static final Pattern CALL = Pattern.compile("run\\.(\\w+\\([^)]*\\)); +// ([^:]+)(: .*)?");
    private static final Pattern TYPING = Pattern.compile(
            "for \\(char c : \"([^\"]+)\"\\.toCharArray\\(\\)\\) run\\.append\\(c\\);");
    private static final String FROM = "\n## How to use it\n";
    private static final String TO = "\n## How to run its tests\n";
    private static final String FIRST_LINE = "MarbleGates run = new MarbleGates();";

    public static void main(String[] args) throws IOException {
        String text = Files.readString(Path.of("README.md"));
        Matcher block = BLOCK.matcher(text.substring(text.indexOf(FROM), text.indexOf(TO)));
        int blocks = 0;
        while (block.find()) {
            blocks++;
            answersStand("README.md, example " + blocks, block.group(1).split("\n"));
        }
        Checks.due("README.md has examples", blocks > 0 ? 1 : 0, 1);
        Checks.end("ReadmeTest");
    }

    private static void answersStand(String name, String[] lines) {
        Checks.dueText(name, lines[0], FIRST_LINE);
        List<String> rows = new ArrayList<>();
        for (int i = 1; i < lines.length; i++) {
            rows.add(rowOf(lines[i]));
        }
        Script.holds(name, rows.toArray(new String[0]));
    }

    private static String rowOf(String line) {
        Matcher typing = TYPING.matcher(line);
        if (typing.matches()) {
            return "type " + typing.group(1);
        }
        Matcher call = CALL.matcher(line);
        if (!call.matches()) {
            throw new AssertionError("not understood: " + line);
        }
        return call.group(1) + due(call.group(2));
    }

    private static String due(String answer) {
        return switch (answer) {
            case "IndexOutOfBoundsException" -> " ! index";
            case "IllegalArgumentException" -> " ! argument";
            case "IllegalStateException" -> " ! state";
            default -> " = " + answer;
        };
    }
}
