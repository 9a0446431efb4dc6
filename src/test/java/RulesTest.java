import java.io.IOException;
import java.nio.file.Files;
import java.nio.file.Path;
import java.util.regex.Matcher;
import java.util.regex.Pattern;

/** What of LANGUAGE.md can be seen in the text of the program; run from the project's folder. */
public final class RulesTest {
    private static final Path PROGRAM = Path.of("src/main/java/CordCart.java");
    /** Each with the number of its rule. */
    private static final String[] RULED_OUT = {
        "2: (?m)^(?!\\s*(case|default)\\b).*->", "2: ::", "1: (?m)^\\s*package\\b", "1: \\bprotected\\b",
        "3: \\b(Object|Character|Byte|Short|Double|Float|Boolean|Map|HashMap|Set|HashSet|Deque|Queue|Stream|Optional)\\b",
        "4: Exact\\(", "4: System\\.(?!arraycopy\\()", "4: Arrays\\.(?!(fill|copyOf|copyOfRange)\\()",
        "4: Math\\.(sqrt|cbrt|pow|exp|log|sin|cos|tan|hypot|floor|ceil|rint|round|random)\\(",
        "5: (?m)^\\s*static \\{",
        "6: \\b(NullPointer|ClassCast|ArrayStore|NegativeArraySize|ArrayIndexOutOfBounds|StringIndexOutOfBounds)Exception\\b",
        "6: \\b(Throwable|Error|Exception)\\b", "6: \\bfinally\\b", "6: \\bassert\\b", "6: \\bsynchronized\\b",
        "6: \\btry \\(", "6: \\bgetMessage\\b", "6: \\bhashCode\\b",
        "13: \\b(Thread|Random|Runtime|Process|File|Files|Path|Socket|Instant|Clock|Scanner|nanoTime|currentTimeMillis)\\b"};
    private static final String IMPORTS = "java\\.util\\.(Arrays|ArrayList|List|Iterator|NoSuchElementException)";

    private RulesTest() {
    }

    public static void main(String[] args) throws IOException {
        String text = Files.readString(PROGRAM);
        Check.due("signs are 1 to 127", text.chars().filter(c -> c < 1 || c > 127).count(), 0);
        String code = text.replaceAll("(?s)/\\*.*?\\*/", "").replaceAll("//[^\n]*", "").replaceAll("\"[^\"\n]*\"", "\"\"");
        for (String rule : RULED_OUT) {
            Matcher found = Pattern.compile(rule.substring(rule.indexOf(' ') + 1)).matcher(code);
            Check.holds("ruled out is " + rule, !found.find());
        }
        Matcher imports = Pattern.compile("import ([^;]*);").matcher(code);
        while (imports.find()) {
            Check.holds("import " + imports.group(1), imports.group(1).matches(IMPORTS));
        }
        int classes = (int) Pattern.compile("\\bclass \\w+").matcher(code).results().count();
        Check.holds("some twelve classes: " + classes, classes <= 14);
        methods(code);
        Check.done("RulesTest");
    }

    private static void methods(String code) {
        Pattern head = Pattern.compile("(?m)^( +)[\\w\\[\\] ]*\\b(\\w+)\\(([^()]*)\\)[\\w, ]* \\{$");
        Matcher method = head.matcher(code);
        int seen = 0;
        while (method.find()) {
            if (method.group(2).matches("if|for|while|switch|catch")) {
                continue;
            }
            seen++;
            int end = code.indexOf("\n" + method.group(1) + "}", method.start());
            long lines = code.substring(method.start(), end).lines().count();
            Check.holds(method.group(2) + " has " + lines + " lines, some sixty at the most", lines <= 65);
            int parameters = method.group(3).isBlank() ? 0 : method.group(3).split(",").length;
            Check.holds(method.group(2) + " takes " + parameters + " parameters, seven at the most", parameters <= 7);
        }
        Check.holds("methods are seen", seen > 40);
    }
}
