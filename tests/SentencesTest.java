import java.io.IOException;
import java.nio.file.Files;
import java.nio.file.Path;
import java.util.ArrayList;
import java.util.List;
import java.util.regex.Matcher;
import java.util.regex.Pattern;
import java.util.stream.Stream;

/** No word of the document's Terms, constants and promises is left that no test says it tests. */
public final class SentencesTest {
    private static final Check CHECK = new Check("SentencesTest");
    private static final Path DOC = Path.of("../shared/DOC.md");
    private static final Path TESTS = Path.of("tests");
    // Headings, fences and signatures say nothing to test here: RulesTest holds the signatures against the class.
    private static final String UNSAID = "## Terms|==== [1-4]\\.|```(text)?|## Promise \\d+: (A new object|\\w+)|`[^`]*`:";

    public static void main(String[] args) throws IOException {
        String document = Files.readString(DOC).replaceAll("\\s+", " ");
        int from = document.indexOf("## Terms");
        int to = document.indexOf("## Not promised");
        CHECK.due("the document has Terms and an end", from > 0 && to > from, true);
        boolean[] said = new boolean[document.length()];
        for (String words : sentences()) {
            mark(document, words, said);
        }
        Matcher unsaid = Pattern.compile(UNSAID).matcher(document);
        while (unsaid.find()) {
            mark(said, unsaid.start(), unsaid.end());
        }
        promises(document.substring(from, to));
        for (String left : leftOver(document, said, from, to)) {
            CHECK.due("no test says '" + left + "'", 1, 0);
        }
        CHECK.end();
    }

    private static void promises(String document) {
        Matcher heading = Pattern.compile("## Promise (\\d+):").matcher(document);
        int found = 0;
        while (heading.find()) {
            found++;
            CHECK.due("the next promise", Integer.parseInt(heading.group(1)), found);
        }
        CHECK.due("promises", found, 40);
    }

    /** What the tests say by Check.says, each as one text. */
    private static List<String> sentences() throws IOException {
        List<String> found = new ArrayList<>();
        Pattern says = Pattern.compile("\\bsays\\(\\s*((?:\"[^\"\\\\]*\"\\s*\\+?\\s*)+)\\)");
        Pattern part = Pattern.compile("\"([^\"]*)\"");
        List<Path> files;
        try (Stream<Path> all = Files.list(TESTS)) {
            files = all.filter(f -> f.toString().endsWith("BoundsTest.java")).sorted().toList();
        }
        CHECK.due("files", files.size() >= 3, true);
        for (Path file : files) {
            Matcher m = says.matcher(Files.readString(file));
            while (m.find()) {
                StringBuilder words = new StringBuilder();
                Matcher p = part.matcher(m.group(1));
                while (p.find()) {
                    words.append(p.group(1));
                }
                found.add(words.toString());
            }
        }
        CHECK.due("sentences", found.size() > 100, true);
        return found;
    }

    private static void mark(String document, String words, boolean[] said) {
        for (int i = document.indexOf(words); i >= 0; i = document.indexOf(words, i + 1)) {
            mark(said, i, i + words.length());
        }
    }

    private static void mark(boolean[] said, int from, int to) {
        for (int i = from; i < to; i++) {
            said[i] = true;
        }
    }

    private static List<String> leftOver(String document, boolean[] said, int from, int to) {
        List<String> left = new ArrayList<>();
        int start = from;
        for (int i = from; i <= to; i++) {
            if (i == to || said[i]) {
                String words = document.substring(start, i).trim();
                if (words.matches(".*[A-Za-z0-9].*")) {
                    left.add(words);
                }
                start = i + 1;
            }
        }
        return left;
    }
}
