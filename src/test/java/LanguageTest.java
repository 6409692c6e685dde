import java.io.IOException;
import java.nio.file.Files;
import java.nio.file.Path;
import java.util.regex.Matcher;
import java.util.regex.Pattern;

/** What of ../shared/LANGUAGE.md can be seen in the text of the program. */
public final class LanguageTest {
    /** A rule's number, and words or signs that it leaves out. */
    private static final String[][] LEFT_OUT = {
        {"2", "->"}, {"2", "::"},
        {"3", "\\bMath\\.(sqrt|abs|floor|ceil|pow|random)\\b"},
        {"4", "\\bimport\\b"}, {"4", "\\bpackage\\b"}, {"4", "\\w+Exact\\b"}, {"4", "\\bSystem\\.(?!arraycopy\\b)"},
        {"4", "\\bInteger\\.(?!bitCount\\b)"}, {"4", "\\bMath\\.(?!max\\b|min\\b)"},
        {"6", "\\bfinally\\b"}, {"6", "\\bsynchronized\\b"}, {"6", "\\bassert\\b"}, {"6", "\\bcatch\\b"},
        {"6", "throw (?!new (IllegalArgument|IllegalState|IndexOutOfBounds)Exception\\(\"[^\"]*\"\\);)"},
        {"6", "\\b(equals|hashCode|toString)\\b"},
        {"10", "\" *\\+"}, {"10", "\\+ *\""}};

    public static void main(String[] args) throws IOException {
        String program = Files.readString(Path.of("src/main/java/MarbleGates.java"));
        Checks.due("signs beyond 126", firstPlace(program, "[^\\n -~]"), -1);
        String code = program.replaceAll("(?s)/\\*.*?\\*/", "").replaceAll("//[^\\n]*", "");
        for (String[] rule : LEFT_OUT) {
            Checks.due("rule " + rule[0] + ": " + rule[1], firstPlace(code, rule[1]), -1);
        }
        arraysStandBehindTests(code);
        constructorsThrowNothing(code);
        methodsStayShort(program);
        Checks.end("LanguageTest");
    }

    private static int firstPlace(String text, String pattern) {
        Matcher matcher = Pattern.compile(pattern).matcher(text);
        return matcher.find() ? matcher.start() : -1;
    }

    /** Arrays are used in the two classes alone that test each index. */
    private static void arraysStandBehindTests(String code) {
        Matcher matcher = Pattern.compile("(\\w*)\\[[^\\]]").matcher(code);
        while (matcher.find()) {
            String name = matcher.group(1);
            Checks.dueText("an array " + name, name.matches("cells|places|int|Run") ? "tested" : name, "tested");
        }
    }

    private static void constructorsThrowNothing(String code) {
        Matcher matcher = Pattern.compile("(?m)^ {4,8}(?:public )?[A-Z]\\w*\\([^)]*\\) \\{(.*?)^ {4,8}\\}",
                Pattern.DOTALL | Pattern.MULTILINE).matcher(code);
        int found = 0;
        while (matcher.find()) {
            found++;
            Checks.due("a throw in a constructor", matcher.group(1).indexOf("throw"), -1);
        }
        Checks.due("constructors", found, 6);
    }

    private static void methodsStayShort(String program) {
        int length = 0;
        for (String line : program.split("\n")) {
            length = line.isBlank() ? 0 : length + 1;
            Checks.due("a stretch without a blank line", Math.max(length, 60), 60);
        }
        Checks.due("classes", Math.max(12, program.split("\\bclass [A-Z]\\w* \\{", -1).length - 1), 12);
    }
}
