import java.io.IOException;
import java.nio.file.Files;
import java.nio.file.Path;
import java.util.ArrayList;
import java.util.List;
import java.util.regex.Matcher;
import java.util.regex.Pattern;

/**
 * Each sentence of the document has tests that would fail if it were broken: each test tells the
 * words that it holds. Here they all are run, and no word of the document may be without a test.
 */
public final class SentencesTest {
    private static final Path DOCUMENT = Path.of("../shared/DOC.md");
    private static final Pattern TERM = Pattern.compile("(?m)^==== ([IV]+)\\. ");
    private static final Pattern PROMISE = Pattern.compile("(?m)^## Promise (\\d+): .*\\n\\n`[^`]*`");

    private SentencesTest() {
    }

    public static void main(String[] args) throws IOException {
        CordSentences.hold();
        RunSentences.hold();
        ShowSentences.hold();
        WishSentences.hold();
        FindSentences.hold();
        TapeSentences.hold();
        System.out.println(Check.sentences().size() + " tests of sentences");
        if (Files.exists(DOCUMENT)) {
            compareWithDocument();
        } else {
            System.out.println("no words are compared, as there is no " + DOCUMENT);
        }
        Check.done("SentencesTest");
    }

    private static void compareWithDocument() throws IOException {
        String document = Files.readString(DOCUMENT);
        List<String> parts = new ArrayList<>();
        int terms = addParts(parts, document, TERM);
        int promises = addParts(parts, document, PROMISE);
        Check.due("terms", terms, 6);
        Check.due("promises", promises, 41);
        quotesStandThere(parts);
    }

    /** Each part is added as its number, and the words behind its head up to the next one. */
    private static int addParts(List<String> parts, String document, Pattern head) {
        Matcher found = head.matcher(document);
        int count = 0;
        while (found.find()) {
            int end = document.length();
            for (String next : new String[] {"\n====", "\n## "}) {
                int at = document.indexOf(next, found.end());
                end = at >= 0 && at < end ? at : end;
            }
            parts.add(found.group(1));
            parts.add(document.substring(found.end(), end));
            count++;
        }
        return count;
    }

    private static void quotesStandThere(List<String> parts) {
        for (int part = 0; part < parts.size(); part += 2) {
            String words = parts.get(part + 1).replaceAll("\\s+", " ");
            boolean[] isHeld = new boolean[words.length()];
            for (Check.Sentence sentence : Check.sentences()) {
                if (sentence.part().equals(parts.get(part))) {
                    int at = words.indexOf(sentence.words());
                    Check.holds("these are words of " + sentence.part() + ": " + sentence.words(), at >= 0);
                    for (int i = Math.max(at, 0); i < at + sentence.words().length(); i++) {
                        isHeld[i] = true;
                    }
                }
            }
            dueHeld(parts.get(part), words, isHeld);
        }
    }

    private static void dueHeld(String part, String words, boolean[] isHeld) {
        StringBuilder without = new StringBuilder();
        for (int i = 0; i < words.length(); i++) {
            without.append(isHeld[i] ? '|' : words.charAt(i));
        }
        for (String rest : without.toString().split("\\|+")) {
            boolean isSaid = rest.matches(".*[A-Za-z0-9].*");
            Check.holds("a test holds of " + part + ": " + rest, !isSaid);
        }
    }
}
