import java.util.NoSuchElementException;

/** Counts what is not as due, and feeds texts as numbers. */
final class Check {
    static final int THROWN = Integer.MIN_VALUE;
    private final String name;
    private int calls = 0;
    private int wrong = 0;

    Check(String name) {
        this.name = name;
    }

    void due(String call, long got, long want) {
        calls++;
        if (got != want) {
            wrong++;
            System.out.println(name + ": " + call + " answered " + got + ", due is " + want);
        }
    }

    void due(String call, boolean got, boolean want) {
        due(call, got ? 1 : 0, want ? 1 : 0);
    }

    void end() {
        System.out.println(name + ": " + calls + " answers, " + wrong + " not as due");
        if (wrong != 0 || calls == 0) {
            System.exit(1);
        }
    }

    static int number(String text, int from) {
        int number = 0;
        for (int i = from; i < from + 4; i++) {
            number = number << 8 | (i < text.length() ? text.charAt(i) & 255 : 0);
        }
        return number;
    }

    /** The tape is the text then. */
    static int tape(CompanyCourt court, String text) {
        court.end(0);
        int length = 0;
        for (int i = 0; i < text.length(); i += 20) {
            length = court.feed(number(text, i), number(text, i + 4), number(text, i + 8), number(text, i + 12),
                    number(text, i + 16));
        }
        return length;
    }

    static int text(CompanyCourt court, int sort, String text) {
        tape(court, text);
        return court.text(sort);
    }

    static int fault(int sort, String text) {
        CompanyCourt court = new CompanyCourt();
        tape(court, text);
        return court.fault(sort);
    }

    static CompanyCourt court(String county) {
        CompanyCourt court = new CompanyCourt();
        text(court, 0, county);
        return court;
    }

    static int person(CompanyCourt court, int person, int what) {
        try {
            return court.person(person, what);
        } catch (NoSuchElementException e) {
            return THROWN;
        }
    }
}
