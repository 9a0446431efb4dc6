import java.io.IOException;
import java.nio.file.Files;
import java.nio.file.Path;
import java.util.regex.Matcher;
import java.util.regex.Pattern;

/** What of LANGUAGE.md can be seen in the text of the program; run from the project's folder. */
public final class RulesTest {
    private static final Path PROGRAM = Path.of("src/main/java/CordCart.java");
    private static final String[] RULED_OUT = {
        "->", "::", "\\bvar\\b", "\\bfinally\\b", "\\bassert\\b", "\\bsynchronized\\b", "\\bpackage\\b", "Exact\\(",
        "static \\{", "\\bdouble\\b|\\bfloat\\b", "\\b(equals|hashCode|toString)\\s*\\(\\)", "while \\(true\\)",
        "NullPointer|OutOfBounds|ClassCast|ArrayStore|NegativeArray|Arithmetic|RuntimeException|Throwable|\\bError\\b",
        "catch \\((?!IllegalStateException|IllegalArgumentException)", "System\\.(?!arraycopy)",
        "Arrays\\.(?!fill|copyOf|copyOfRange)", "Math\\.(?!min|max|abs|floorDiv|floorMod)",
        "\\b(Integer|Long|String|Object|Thread|Random|List|Map)\\b"};

    private RulesTest() {
    }

    public static void main(String[] args) throws IOException {
        String text = Files.readString(PROGRAM);
        Check.due("signs are 1 to 127", text.chars().filter(c -> c < 1 || c > 127).count(), 0);
        String code = text.replaceAll("(?s)/\\*.*?\\*/", "").replaceAll("//[^\n]*", "").replaceAll("\"[^\"\n]*\"", "\"\"");
        for (String word : RULED_OUT) {
            Matcher found = Pattern.compile(word).matcher(code);
            Check.due("ruled out: " + word, found.find() ? 1 : 0, 0);
        }
        Matcher imports = Pattern.compile("import ([^;]*);").matcher(code);
        while (imports.find()) {
            Check.due("import " + imports.group(1), imports.group(1).equals("java.util.Arrays") ? 1 : 0, 1);
        }
        int classes = (int) Pattern.compile("\\bclass \\w+").matcher(code).results().count();
        Check.due("some twelve classes: " + classes, classes <= 12 ? 1 : 0, 1);
        methods(code);
        Check.done("RulesTest");
    }

    private static void methods(String code) {
        Pattern head = Pattern.compile("(?m)^( +)[\\w\\[\\] ]*\\b(\\w+)\\(([^()]*)\\)[\\w, ]* \\{$");
        Matcher method = head.matcher(code);
        int seen = 0;
        while (method.find()) {
            if (method.group(2).matches("if|for|while|switch|catch")) {
                continue;
            }
            seen++;
            int end = code.indexOf("\n" + method.group(1) + "}", method.start());
            long lines = code.substring(method.start(), end).lines().count();
            Check.due(method.group(2) + " has " + lines + " lines", lines <= 60 ? 1 : 0, 1);
            int parameters = method.group(3).isBlank() ? 0 : method.group(3).split(",").length;
            Check.due(method.group(2) + " takes " + parameters + " parameters", parameters <= 7 ? 1 : 0, 1);
        }
        Check.due("methods were seen", seen > 100 ? 1 : 0, 1);
    }
}
