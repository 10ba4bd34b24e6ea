import java.io.IOException;
import java.nio.file.Files;
import java.nio.file.Path;
import java.util.ArrayList;
import java.util.List;
import java.util.NoSuchElementException;

/** Counts what is not as due, and feeds texts as numbers. */
final class Check {
    static final int THROWN = Integer.MIN_VALUE;
    private static final Path DOC = Path.of("../shared/DOC.md");
    private final String name;
    private final List<String> sentences = new ArrayList<>();
    private String document = null;
    private int sentenceCalls = 1;
    private int calls = 0;
    private int wrong = 0;

    Check(String name) {
        this.name = name;
    }

    /** What is due from here on is what these words of the document say; a sentence needs a test, and words there are. */
    void says(String words) throws IOException {
        if (document == null) {
            document = Files.readString(DOC).replaceAll("\\s+", " ");
        }
        ended();
        sentences.add(words);
        sentenceCalls = 0;
        if (!document.contains(words)) {
            fault("the document does not say '" + words + "'");
        }
    }

    private void ended() {
        if (sentenceCalls == 0) {
            fault("nothing is tested of '" + sentences.get(sentences.size() - 1) + "'");
        }
    }

    private void fault(String what) {
        wrong++;
        System.out.println(name + ": " + what);
    }

    void due(String call, long got, long want) {
        calls++;
        sentenceCalls++;
        if (got != want) {
            String sentence = sentences.isEmpty() ? "" : " (" + sentences.get(sentences.size() - 1) + ")";
            fault(call + " answered " + got + ", due is " + want + sentence);
        }
    }

    void due(String call, boolean got, boolean want) {
        due(call, got ? 1 : 0, want ? 1 : 0);
    }

    void end() {
        ended();
        System.out.println(name + ": " + calls + " answers, " + (sentences.isEmpty() ? "" : sentences.size()
                + " sentences, ") + wrong + " not as due");
        if (wrong != 0 || calls == 0) {
            System.exit(1);
        }
    }

    static int number(String text, int from) {
        int number = 0;
        for (int i = from; i < from + 4; i++) {
            number = number << 8 | (i < text.length() ? text.charAt(i) & 255 : 0);
        }
        return number;
    }

    /** The tape is the text then. */
    static int tape(CompanyCourt court, String text) {
        court.end(0);
        int length = 0;
        for (int i = 0; i < text.length(); i += 20) {
            length = court.feed(number(text, i), number(text, i + 4), number(text, i + 8), number(text, i + 12),
                    number(text, i + 16));
        }
        return length;
    }

    static int text(CompanyCourt court, int sort, String text) {
        tape(court, text);
        return court.text(sort);
    }

    static int fault(int sort, String text) {
        CompanyCourt court = new CompanyCourt();
        tape(court, text);
        return court.fault(sort);
    }

    static CompanyCourt court(String county) {
        CompanyCourt court = new CompanyCourt();
        text(court, 0, county);
        return court;
    }

    /** A county in which a wrong of grave 9 is worth 30 and any other one what its grave is; all are sentenced. */
    static CompanyCourt owing(String county) {
        CompanyCourt court = new CompanyCourt();
        text(court, 1, "y:g=9?30;y:g");
        court.law(0);
        text(court, 0, "sm30c99;" + county);
        for (int i = 0; i < court.count(1); i++) {
            court.sentence(i);
        }
        return court;
    }

    /** So many evenings without any sin. */
    static CompanyCourt pass(CompanyCourt court, int evenings) {
        int sin = court.count(9);
        court.sin(0);
        for (int left = evenings; left > 0; left -= 30) {
            court.years(Math.min(30, left), 1);
        }
        court.sin(sin);
        return court;
    }

    static int person(CompanyCourt court, int person, int what) {
        try {
            return court.person(person, what);
        } catch (NoSuchElementException e) {
            return THROWN;
        }
    }
}
