import java.io.IOException;
import java.nio.file.Files;
import java.nio.file.Path;
import java.util.regex.Matcher;
import java.util.regex.Pattern;

/** What of ../shared/LANGUAGE.md can be seen in the text of the program; the face of rule 1 is in FaceTest. */
public final class LanguageTest {
    /** A rule's number, and what it leaves out. */
    private static final String[][] LEFT_OUT = {
        {"2, lambdas", "(?m)^(?!.*\\b(case|default)\\b).*->"},
        {"2, method references", "::"},
        {"3, Math on doubles", "\\bMath\\.(sqrt|floor|ceil|pow|random)\\b"},
        {"4, packages", "\\bpackage\\b"},
        {"4, imports", "\\bimport (?!java\\.util\\.(ArrayList|List|Arrays|Iterator|NoSuchElementException);)"},
        {"4, names that end in Exact", "\\w+Exact\\b"},
        {"4, System", "\\bSystem\\.(?!arraycopy\\b)"},
        {"4, texts of numbers", "\\b(Integer|Long)\\.(parse\\w*|valueOf|to\\w*String|decode)\\b"},
        {"4, constants of other signs", "\"[^\"\\n]*[^\\x01-\\x7f\\n][^\"\\n]*\""},
        {"6, words", "\\b(finally|synchronized|assert|hashCode)\\b"},
        {"6, exceptions",
        "\\bthrow (?!new (IllegalState|IllegalArgument|IndexOutOfBounds|Arithmetic|UnsupportedOperation"
            + "|NoSuchElement|Runtime)Exception\\((\"[^\"]*\")?\\);)"},
        {"6, catching what the machine throws", "\\bcatch \\(\\s*(final )?(Throwable|Exception|RuntimeException"
            + "|NullPointerException|ArithmeticException|ClassCastException|ArrayStoreException"
            + "|ArrayIndexOutOfBoundsException|NegativeArraySizeException)\\b"},
        {"10, texts joined by +", "\" *\\+(?!\\+)|[^+]\\+ *\""}};

    /** Rule 11's "some sixty" lines and "some twelve" classes. */
    private static final int LINE_LIMIT = 65;
    private static final int CLASS_LIMIT = 13;

    public static void main(String[] args) throws IOException {
        String program = Files.readString(Path.of("src/main/java/MarbleGates.java"));
        String code = program.replaceAll("(?s)/\\*.*?\\*/", "").replaceAll("//[^\\n]*", "");
        for (String[] rule : LEFT_OUT) {
            Checks.dueText("rule " + rule[0], firstOf(code, rule[1]), "");
        }
        constructorsThrowNothing(code);
        methodsStayShort(code);
        int classes = code.split("\\b(class|record|enum|interface) [A-Z]\\w*[^;{]*\\{", -1).length - 1;
        Checks.due("rule 11: classes", Math.max(classes, CLASS_LIMIT), CLASS_LIMIT);
        Checks.end("LanguageTest");
    }

    private static String firstOf(String text, String pattern) {
        Matcher matcher = Pattern.compile(pattern).matcher(text);
        return matcher.find() ? matcher.group() : "";
    }

    private static void constructorsThrowNothing(String code) {
        Matcher matcher = Pattern.compile("(?ms)^( {4,8})(?:public |private )?[A-Z]\\w*\\([^)]*\\) \\{(.*?)^\\1\\}")
                .matcher(code);
        while (matcher.find()) {
            Checks.due("rule 6: a throw in a constructor", matcher.group(2).indexOf("throw"), -1);
        }
    }

    private static void methodsStayShort(String code) {
        Matcher matcher = Pattern.compile("(?ms)^( {4,8})[^\\s}][^\\n;=]*\\([^\\n;]*\\{$(.*?)^\\1\\}").matcher(code);
        while (matcher.find()) {
            int lines = matcher.group(2).split("\n", -1).length;
            Checks.due("rule 11: lines of a method", Math.max(lines, LINE_LIMIT), LINE_LIMIT);
        }
    }
}
