import java.util.ArrayDeque;
import java.util.ArrayList;
import java.util.Deque;
import java.util.List;
import java.util.NoSuchElementException;

/** The document said once more, slowly and by other ways, so that the class can be held against it. */
final class Model {
    static final int NONE = -1;
    static final int HIDDEN = -1000000;

    static final class Wrong {
        int who = 0;
        int whom = 1;
        int grave = 3;
    }

    static final class State {
        int[][] owed;
        int[] lonely;
        int[] bore;
        boolean[] sentenced;
        int coins;
        int windows;
        int evening;
        List<int[]> log = new ArrayList<>();

        State twin() {
            State s = new State();
            s.owed = new int[owed.length][];
            for (int i = 0; i < owed.length; i++) {
                s.owed[i] = owed[i].clone();
            }
            s.lonely = lonely.clone();
            s.bore = bore.clone();
            s.sentenced = sentenced.clone();
            s.coins = coins;
            s.windows = windows;
            s.evening = evening;
            s.log = new ArrayList<>(log);
            return s;
        }
    }

    String tape = "";
    int people = 0;
    int most = 20;
    int[] hard;
    List<Wrong> wrongs = new ArrayList<>();
    State told;
    State now;
    State image;
    Deque<State> past = new ArrayDeque<>();
    List<String> laws = new ArrayList<>();
    List<String> sessions = new ArrayList<>();
    int held = NONE;
    int sin = 3;
    List<int[]> given = new ArrayList<>();
    long x;

    // ---- the tape

    int feed(int... numbers) {
        StringBuilder more = new StringBuilder();
        for (int n : numbers) {
            for (int i = 3; i >= 0; i--) {
                char c = (char) ((n >>> (8 * i)) & 255);
                if (c != 0) {
                    more.append(c);
                }
            }
        }
        if (tape.length() + more.length() > 240) {
            return NONE;
        }
        tape += more;
        return tape.length();
    }

    boolean end(int n) {
        if (n < 0 || n > tape.length()) {
            return false;
        }
        tape = tape.substring(0, n);
        return true;
    }

    int fault(int sort) {
        return sort == 0 ? countyFault(tape) : sort == 1 ? lawFault(tape) : sort == 2 ? sessionFault(tape) : -2;
    }

    int text(int sort) {
        if (fault(sort) != NONE) {
            return NONE;
        }
        List<String> texts = sort == 1 ? laws : sessions;
        if (sort != 0 && texts.size() == 4) {
            return NONE;
        }
        String text = tape.replace(" ", "");
        tape = "";
        if (sort == 0) {
            county(text);
            return people;
        }
        texts.add(text);
        return texts.size() - 1;
    }

    // A machine of letters: what may come next is told by the letters there were in the clause.
    static int countyFault(String text) {
        int rules = 0;
        int persons = 0;
        int wrongings = 0;
        String letters = null;
        List<int[]> tolds = new ArrayList<>();
        int i = 0;
        while (true) {
            while (i < text.length() && text.charAt(i) == ' ') {
                i++;
            }
            if (i == text.length()) {
                boolean bad = letters == null || persons < 2;
                for (int[] w : tolds) {
                    bad |= w[0] >= persons || w[1] >= persons || w[0] == w[1];
                }
                return bad ? i : NONE;
            }
            char c = text.charAt(i);
            if (letters == null) {
                if (c == 's' && rules++ == 0) {
                    letters = "mc";
                } else if (c == 'p' && persons++ < 6) {
                    letters = "lbh";
                } else if (c == 'w' && wrongings++ < 8) {
                    letters = "avg";
                    tolds.add(new int[] {0, 1});
                } else {
                    return i;
                }
                i++;
            } else if (c == ';') {
                letters = null;
                i++;
            } else if (letters.indexOf(c) < 0) {
                return i;
            } else {
                letters = letters.replace("" + c, "");
                i++;
                while (i < text.length() && text.charAt(i) == ' ') {
                    i++;
                }
                int from = i;
                while (i < text.length() && Character.isDigit(text.charAt(i)) && i - from < 2) {
                    i++;
                }
                if (i == from || i < text.length() && Character.isDigit(text.charAt(i))) {
                    return i;
                }
                int value = Integer.parseInt(text.substring(from, i));
                int least = c == 'm' || c == 'g' ? 1 : 0;
                int top = c == 'm' ? 30 : c == 'c' ? 99 : c == 'a' || c == 'v' ? 5 : 9;
                if (value < least || value > top) {
                    return i - 1;
                }
                if (c == 'a' || c == 'v') {
                    tolds.get(tolds.size() - 1)[c == 'a' ? 0 : 1] = value;
                }
            }
        }
    }

    static int sessionFault(String text) {
        int steps = 0;
        int digits = -1;
        for (int i = 0; i < text.length(); i++) {
            char c = text.charAt(i);
            if (c == ' ') {
                continue;
            }
            if (digits == -1) {
                digits = c == 's' ? 1 : c == 'e' ? 0 : c == 'a' || c == 'p' ? 2 : -1;
                if (digits == -1) {
                    return i;
                }
                steps++;
            } else if (digits > 0) {
                if (c < '0' || c > '9') {
                    return i;
                }
                digits--;
            } else {
                if (c != ';' || steps == 16) {
                    return i;
                }
                digits = -1;
            }
        }
        return digits == 0 ? NONE : text.length();
    }

    // A machine with a stack of open signs. Kinds of sums: U (may be a condition's first or the worth), L and R of a
    // comparison, V (the worth). Wants: y, colon, c (clause), u (unit), o (operand), a (behind an operand), t (behind a unit).
    static int lawFault(String text) {
        Deque<Character> open = new ArrayDeque<>();
        char want = 'y';
        char kind = 'U';
        for (int i = 0; i < text.length(); i++) {
            char c = text.charAt(i);
            if (c == ' ') {
                continue;
            }
            boolean right = want == 't' || want == 'a' && kind == 'R' && (open.isEmpty() || open.peek() != '[');
            if (want == 'y') {
                if (c != 'y') {
                    return i;
                }
                want = ':';
            } else if (want == ':') {
                if (c != ':') {
                    return i;
                }
                want = 'c';
                kind = 'U';
            } else if (want == 'c' || want == 'u' || want == 'o') {
                if (want != 'o' && (c == '!' || c == '(') || c == '[') {
                    if (open.size() == 6) {
                        return i;
                    }
                    open.push(c);
                    if (c == '[') {
                        kind = want == 'u' ? 'L' : kind;
                        want = 'o';
                    } else {
                        kind = 'L';
                        want = 'u';
                    }
                } else if (c >= '0' && c <= '9') {
                    kind = want == 'u' ? 'L' : kind;
                    int from = i;
                    while (i + 1 < text.length() && text.charAt(i + 1) >= '0' && text.charAt(i + 1) <= '9') {
                        i++;
                        if (i - from == 4) {
                            return i;
                        }
                    }
                    want = 'a';
                } else if ("ghlbnd".indexOf(c) >= 0) {
                    kind = want == 'u' ? 'L' : kind;
                    want = 'a';
                } else {
                    return i;
                }
            } else if (want == 'a' && "+-*/".indexOf(c) >= 0) {
                want = 'o';
            } else if (want == 'a' && c == ']' && !open.isEmpty() && open.peek() == '[') {
                open.pop();
            } else if (want == 'a' && (kind == 'U' || kind == 'L') && "=<>".indexOf(c) >= 0
                    && (open.isEmpty() || open.peek() != '[')) {
                kind = 'R';
                want = 'o';
            } else if (right) {
                while (!open.isEmpty() && open.peek() == '!') {
                    open.pop();
                }
                if (c == '&' || c == '|') {
                    want = 'u';
                } else if (c == ')' && !open.isEmpty() && open.peek() == '(') {
                    open.pop();
                    want = 't';
                } else if (c == '?' && open.isEmpty()) {
                    kind = 'V';
                    want = 'o';
                } else {
                    return i;
                }
            } else if (want == 'a' && c == ';' && open.isEmpty() && (kind == 'U' || kind == 'V')) {
                want = 'y';
            } else {
                return i;
            }
        }
        return want == 'a' && open.isEmpty() && (kind == 'U' || kind == 'V') ? NONE : text.length();
    }

    private void county(String text) {
        people = 0;
        most = 20;
        wrongs.clear();
        told = new State();
        told.coins = 20;
        List<int[]> persons = new ArrayList<>();
        for (String clause : text.split(";")) {
            if (clause.charAt(0) == 's') {
                most = item(clause, 'm', 20);
                told.coins = item(clause, 'c', 20);
            } else if (clause.charAt(0) == 'p') {
                persons.add(new int[] {item(clause, 'l', 4), item(clause, 'b', 2), item(clause, 'h', 3)});
            } else {
                Wrong w = new Wrong();
                w.who = item(clause, 'a', 0);
                w.whom = item(clause, 'v', 1);
                w.grave = item(clause, 'g', 3);
                wrongs.add(w);
            }
        }
        people = persons.size();
        hard = new int[people];
        told.lonely = new int[people];
        told.bore = new int[people];
        told.owed = new int[people][people];
        told.sentenced = new boolean[wrongs.size()];
        for (int i = 0; i < people; i++) {
            told.lonely[i] = persons.get(i)[0];
            told.bore[i] = persons.get(i)[1];
            hard[i] = persons.get(i)[2];
        }
        now = told.twin();
        image = null;
        past.clear();
        given.clear();
    }

    private static int item(String clause, char letter, int without) {
        int from = clause.indexOf(letter, 1) + 1;
        if (from == 0) {
            return without;
        }
        int to = from;
        while (to < clause.length() && Character.isDigit(clause.charAt(to))) {
            to++;
        }
        return Integer.parseInt(clause.substring(from, to));
    }

    // ---- worth

    private int worth(State s, int who, int whom, int grave) {
        int worth = 2 * grave + (people == 0 ? 0 : hard[who]) - s.lonely[whom] / 2;
        if (held != NONE) {
            int n = 0;
            for (int i = 0; i < wrongs.size(); i++) {
                n += s.sentenced[i] && wrongs.get(i).who == who ? 1 : 0;
            }
            worth = lawWorth(laws.get(held), new int[] {grave, hard[who], s.lonely[whom], s.bore[whom], n, s.evening});
        }
        return worth < 1 ? 1 : worth > most ? most : worth;
    }

    // The texts are cut at their outermost last sign, again and again.
    private static int lawWorth(String law, int[] letters) {
        for (String clause : law.split(";")) {
            String body = clause.substring(2);
            int q = body.indexOf('?');
            if (q < 0) {
                return (int) sum(body, letters);
            }
            if (holds(body.substring(0, q), letters)) {
                return (int) sum(body.substring(q + 1), letters);
            }
        }
        return 0;
    }

    private static int lastOutside(String text, String signs) {
        int depth = 0;
        for (int i = text.length() - 1; i >= 0; i--) {
            char c = text.charAt(i);
            depth += c == ')' || c == ']' ? 1 : c == '(' || c == '[' ? -1 : 0;
            if (depth == 0 && signs.indexOf(c) >= 0) {
                return i;
            }
        }
        return -1;
    }

    private static boolean holds(String text, int[] letters) {
        int i = lastOutside(text, "|");
        if (i >= 0) {
            return holds(text.substring(0, i), letters) || holds(text.substring(i + 1), letters);
        }
        i = lastOutside(text, "&");
        if (i >= 0) {
            return holds(text.substring(0, i), letters) && holds(text.substring(i + 1), letters);
        }
        if (text.charAt(0) == '!') {
            return !holds(text.substring(1), letters);
        }
        if (text.charAt(0) == '(') {
            return holds(text.substring(1, text.length() - 1), letters);
        }
        i = lastOutside(text, "=<>");
        long a = sum(text.substring(0, i), letters);
        long b = sum(text.substring(i + 1), letters);
        return text.charAt(i) == '=' ? a == b : text.charAt(i) == '<' ? a < b : a > b;
    }

    private static long sum(String text, int[] letters) {
        int i = lastOutside(text, "+-");
        if (i < 0) {
            i = lastOutside(text, "*/");
        }
        if (i >= 0) {
            long a = sum(text.substring(0, i), letters);
            long b = sum(text.substring(i + 1), letters);
            char c = text.charAt(i);
            long v = c == '+' ? a + b : c == '-' ? a - b : c == '*' ? a * b : b == 0 ? 0 : a / b;
            return v > 1000000 ? 1000000 : v < -1000000 ? -1000000 : v;
        }
        if (text.charAt(0) == '[') {
            return sum(text.substring(1, text.length() - 1), letters);
        }
        int letter = "ghlbnd".indexOf(text.charAt(0));
        return letter >= 0 ? letters[letter] : Integer.parseInt(text);
    }

    // ---- acts on a state

    private boolean two(int one, int other) {
        return one >= 0 && other >= 0 && one < people && other < people && one != other;
    }

    private static void more(State s, int one, int other, int n) {
        s.owed[one][other] = s.owed[other][one] = Math.min(99, s.owed[one][other] + n);
    }

    private static int debt(State s, int person) {
        int sum = 0;
        for (int n : s.owed[person]) {
            sum += n;
        }
        return sum;
    }

    private static int debts(State s) {
        int sum = 0;
        for (int i = 0; i < s.owed.length; i++) {
            sum += debt(s, i);
        }
        return sum / 2;
    }

    private static int[] book(State s, int bed) {
        int n = s.owed.length;
        List<int[]> pairs = new ArrayList<>();
        for (int a = 0; a < n; a++) {
            for (int b = a + 1; b < n; b++) {
                if (s.owed[a][b] > 0 && a != bed && b != bed) {
                    pairs.add(new int[] {a, b});
                }
            }
        }
        pairs.sort((p, q) -> s.owed[q[0]][q[1]] - s.owed[p[0]][p[1]]);
        int[] seat = new int[n];
        java.util.Arrays.fill(seat, 9);
        for (int[] p : pairs) {
            if (seat[p[0]] == 9 && seat[p[1]] == 9) {
                seat[p[0]] = p[1];
                seat[p[1]] = p[0];
            }
        }
        return seat;
    }

    /** Answers who broke a window, as bits, and above them how many sat. */
    private static int pass(State s, int bed) {
        int[] seat = book(s, bed);
        int n = seat.length;
        int sat = 0;
        int broke = 0;
        int[][] before = s.twin().owed;
        for (int i = 0; i < n; i++) {
            if (seat[i] != 9) {
                sat++;
                s.lonely[i] = Math.max(0, s.lonely[i] - 1);
                s.owed[i][seat[i]] = before[i][seat[i]] - 1;
            }
        }
        for (int i = 0; i < n; i++) {
            if (seat[i] == 9 && s.lonely[i]++ == 9) {
                broke |= 1 << i;
                s.windows++;
                s.lonely[i] = 5;
                for (int j = 0; j < n; j++) {
                    if (j != i) {
                        more(s, i, j, 1);
                    }
                }
            }
        }
        s.evening++;
        s.log.add(0, new int[] {sat, broke, debts(s)});
        while (s.log.size() > 60) {
            s.log.remove(60);
        }
        return broke;
    }

    private boolean doStep(State s, String step) {
        char c = step.charAt(0);
        int a = step.length() > 1 ? step.charAt(1) - '0' : -1;
        int b = step.length() > 2 ? step.charAt(2) - '0' : -1;
        if (c == 's') {
            if (a >= wrongs.size() || s.sentenced[a]) {
                return false;
            }
            Wrong w = wrongs.get(a);
            more(s, w.who, w.whom, worth(s, w.who, w.whom, w.grave));
            s.sentenced[a] = true;
            return true;
        }
        if (c == 'e') {
            if (s.evening >= 999) {
                return false;
            }
            pass(s, -1);
            return true;
        }
        if (!two(a, b)) {
            return false;
        }
        int price = c == 'a' ? 2 : 4;
        int owes = s.owed[a][b];
        if (s.coins < price || owes < (c == 'a' ? 2 : 1)) {
            return false;
        }
        s.coins -= price;
        s.owed[a][b] = s.owed[b][a] = c == 'a' ? owes - owes / 2 : 0;
        return true;
    }

    private void act(State next) {
        past.push(now);
        while (past.size() > 40) {
            past.removeLast();
        }
        now = next;
    }

    private boolean stepAct(String step) {
        if (people == 0) {
            return false;
        }
        State next = now.twin();
        if (!doStep(next, step)) {
            return false;
        }
        act(next);
        return true;
    }

    // ---- the face

    int person(int person, int what) {
        if (person < 0 || person >= people || what < 0 || what > 3) {
            throw new NoSuchElementException();
        }
        return what == 0 ? now.lonely[person] : what == 1 ? now.bore[person] : what == 2 ? hard[person]
                : debt(now, person);
    }

    int wrong(int wrong, int what) {
        if (wrong < 0 || wrong >= wrongs.size() || what < 0 || what > 4) {
            return NONE;
        }
        Wrong w = wrongs.get(wrong);
        return new int[] {w.who, w.whom, w.grave, now.sentenced[wrong] ? 1 : 0,
            worth(now, w.who, w.whom, w.grave)}[what];
    }

    boolean law(int law) {
        if (law < -1 || law >= laws.size()) {
            return false;
        }
        held = law;
        return true;
    }

    boolean sin(int v) {
        if (v < 0 || v > 9 || v == sin) {
            return false;
        }
        sin = v;
        return true;
    }

    int sentence(int wrong) {
        if (wrong < 0 || wrong > 9 || !stepAct("s" + wrong)) {
            return NONE;
        }
        return now.owed[wrongs.get(wrong).who][wrongs.get(wrong).whom];
    }

    int evening() {
        return stepAct("e") ? now.log.get(0)[0] : NONE;
    }

    int appeal(int one, int other) {
        return two(one, other) && stepAct("a" + one + other) ? now.owed[one][other] : NONE;
    }

    int pardon(int one, int other) {
        int n = two(one, other) ? now.owed[one][other] : 0;
        return two(one, other) && stepAct("p" + one + other) ? n : NONE;
    }

    int lunch(int one, int other) {
        if (!two(one, other) || now.coins == 0 || now.lonely[one] == 0 && now.lonely[other] == 0) {
            return NONE;
        }
        State next = now.twin();
        next.coins--;
        next.lonely[one] = Math.max(next.lonely[one] - 2, 0);
        next.lonely[other] = Math.max(next.lonely[other] - 2, 0);
        act(next);
        return now.lonely[one];
    }

    int teach(int person) {
        if (person < 0 || person >= people || now.bore[person] == 0 || now.coins < 3) {
            return NONE;
        }
        State next = now.twin();
        next.coins -= 3;
        next.bore[person]--;
        act(next);
        return now.bore[person];
    }

    int give(int n) {
        if (people == 0 || n < 1 || n > 50 || now.coins + n > 999) {
            return NONE;
        }
        State next = now.twin();
        next.coins += n;
        act(next);
        return now.coins;
    }

    private int draw(int j) {
        x = x * 6364136223846793005L + 1442695040888963407L;
        return (int) ((x >>> 33) % j);
    }

    int years(int n, long seed) {
        if (people == 0 || n < 1 || n > 30 || now.evening > 999 - n) {
            return NONE;
        }
        x = seed;
        for (int i = 0; i < n; i++) {
            State next = now.twin();
            if (draw(10) < sin) {
                int a = draw(people);
                int b = draw(people);
                int k = draw(9) + 1;
                if (a != b) {
                    more(next, a, b, k);
                }
            }
            pass(next, -1);
            act(next);
        }
        return now.evening;
    }

    int undo() {
        if (past.isEmpty()) {
            return NONE;
        }
        now = past.pop();
        return past.size();
    }

    int log(int i, int what) {
        if (people == 0 || i < 0 || i >= now.log.size() || what < 0 || what > 2) {
            return NONE;
        }
        return now.log.get(i)[what];
    }

    int step(int session, int i, int what) {
        if (session < 0 || session >= sessions.size() || what < 0 || what > 2) {
            return HIDDEN;
        }
        String[] steps = sessions.get(session).split(";");
        if (i < 0 || i >= steps.length) {
            return HIDDEN;
        }
        return what == 0 ? "seap".indexOf(steps[i].charAt(0))
                : steps[i].length() > what ? steps[i].charAt(what) - '0' : NONE;
    }

    int run(int session, int what) {
        if (session < 0 || session >= sessions.size() || people == 0 || what < 0 || what > 1) {
            return HIDDEN;
        }
        State s = now.twin();
        int done = 0;
        String[] steps = sessions.get(session).split(";");
        while (done < steps.length && doStep(s, steps[done])) {
            done++;
        }
        return what == 1 ? s.windows - now.windows : done == steps.length ? NONE : done;
    }

    int perform(int session) {
        if (session < 0 || session >= sessions.size() || people == 0) {
            return NONE;
        }
        int done = 0;
        String[] steps = sessions.get(session).split(";");
        while (done < steps.length && stepAct(steps[done])) {
            done++;
        }
        return done;
    }

    int owed(int one, int other) {
        return two(one, other) ? now.owed[one][other] : NONE;
    }

    private static int row(int[] seat) {
        int row = 0;
        for (int s : seat) {
            row = 10 * row + s;
        }
        return row;
    }

    int tonight() {
        return people == 0 ? NONE : row(book(now, -1));
    }

    int served() {
        if (people == 0) {
            return NONE;
        }
        State s = now.twin();
        int n = 0;
        while (debts(s) > 0) {
            if (n++ == 99) {
                return NONE;
            }
            pass(s, -1);
        }
        return n;
    }

    int sooner() {
        if (people == 0) {
            return NONE;
        }
        int best = 0;
        int[][] o = now.owed;
        for (int a = 0; a < people; a++) {
            best = Math.max(best, debt(now, a));
            for (int b = 0; b < a; b++) {
                for (int c = 0; c < b; c++) {
                    best = Math.max(best, o[a][b] + o[b][c] + o[a][c]);
                }
            }
        }
        for (int left = 0; left < 6; left++) {
            if (people == 6 || people == 5 && left == 5) {
                int sum = debts(now) - (left < people ? debt(now, left) : 0);
                best = Math.max(best, sum / 2 + sum % 2);
            }
        }
        return best;
    }

    private final List<List<int[]>> rows = new ArrayList<>();

    // Every number of so many digits whose digits tell who sits with whom.
    private List<int[]> rows() {
        while (rows.size() <= 6) {
            int n = rows.size();
            List<int[]> found = new ArrayList<>();
            int top = 1;
            for (int i = 0; i < n; i++) {
                top *= 10;
            }
            for (int r = 0; r < top && n > 1; r++) {
                int[] seat = new int[n];
                int rest = r;
                for (int i = n - 1; i >= 0; i--) {
                    seat[i] = rest % 10;
                    rest /= 10;
                }
                boolean good = true;
                for (int i = 0; i < n && good; i++) {
                    good = seat[i] == 9 || seat[i] < n && seat[i] != i && seat[seat[i]] == i;
                }
                if (good) {
                    found.add(seat);
                }
            }
            rows.add(found);
        }
        return rows.get(people);
    }

    int matched(int what) {
        if (people == 0 || what < 0 || what > 1) {
            return NONE;
        }
        int best = -1;
        int[] with = null;
        for (int[] seat : rows()) {
            int gone = 0;
            boolean may = true;
            for (int i = 0; i < people; i++) {
                if (seat[i] != 9) {
                    may &= now.owed[i][seat[i]] > 0;
                    gone += now.lonely[i];
                }
            }
            if (may && gone > best) {
                best = gone;
                with = seat;
            }
        }
        return what == 0 ? row(with) : best;
    }

    private int liking(int one, int other) {
        return now.lonely[one] - now.bore[other];
    }

    private static int pick(List<Integer> found, int i) {
        return i == NONE ? found.size() : i >= 0 && i < found.size() ? found.get(i) : NONE;
    }

    int firm(int i) {
        if (people == 0) {
            return NONE;
        }
        List<Integer> found = new ArrayList<>();
        for (int[] seat : rows()) {
            boolean firm = true;
            for (int a = 0; a < people; a++) {
                int has = seat[a] == 9 ? 0 : liking(a, seat[a]);
                firm &= has >= 0;
                for (int b = 0; b < people; b++) {
                    int hasOther = seat[b] == 9 ? 0 : liking(b, seat[b]);
                    if (a != b && seat[a] != b && liking(a, b) > has && liking(b, a) > hasOther) {
                        firm = false;
                    }
                }
            }
            if (firm) {
                found.add(row(seat));
            }
        }
        return pick(found, i);
    }

    int given(int wrong, int n, boolean more) {
        if (wrong < 0 || wrong >= wrongs.size() || n < 1 || n > 30 || given.size() == 10) {
            return NONE;
        }
        given.add(new int[] {wrong, n, more ? 1 : 0});
        return given.size();
    }

    private List<Integer> gravesOf(int wrong) {
        List<Integer> found = new ArrayList<>();
        for (int g = 1; g <= 9; g++) {
            boolean fits = true;
            for (int[] f : given) {
                boolean more = worth(told, wrongs.get(wrong).who, wrongs.get(wrong).whom, g) >= f[1];
                fits &= f[0] != wrong || more == (f[2] == 1);
            }
            if (fits) {
                found.add(g);
            }
        }
        return found;
    }

    int graves(int wrong, int i) {
        return wrong < 0 || wrong >= wrongs.size() ? NONE : pick(gravesOf(wrong), i);
    }

    int ask(int wrong) {
        if (wrong < 0 || wrong >= wrongs.size() || gravesOf(wrong).isEmpty()) {
            return NONE;
        }
        int best = 0;
        int least = 99;
        for (int n = 30; n >= 1; n--) {
            int difference = 0;
            for (int g : gravesOf(wrong)) {
                difference += worth(told, wrongs.get(wrong).who, wrongs.get(wrong).whom, g) < n ? 1 : -1;
            }
            if (Math.abs(difference) <= least) {
                least = Math.abs(difference);
                best = n;
            }
        }
        return best;
    }

    int crime(int one, int other, int n) {
        int best = NONE;
        if (two(one, other) && n >= 1 && n <= 30) {
            for (int g = 9; g >= 1; g--) {
                best = worth(now, one, other, g) >= n ? g : best;
            }
        }
        return best;
    }

    private int gains(int one, int other, int mine, int his) {
        int v = mine < people && mine != one ? liking(one, mine) : -9;
        v -= mine == his ? 3 : 0;
        return v + (mine == other && his == one ? 2 : 0);
    }

    int game(int one, int other, int a, int b, int what) {
        if (!two(one, other) || a < 0 || a > 5 || b < 0 || b > 5 || what < 0 || what > 1) {
            return HIDDEN;
        }
        return what == 0 ? gains(one, other, a, b) : gains(other, one, b, a);
    }

    int rests(int one, int other, int i) {
        if (!two(one, other)) {
            return NONE;
        }
        List<Integer> found = new ArrayList<>();
        for (int r = 0; r < 66; r++) {
            int a = r / 10;
            int b = r % 10;
            if (a >= people || b >= people) {
                continue;
            }
            boolean rest = true;
            for (int k = 0; k < people; k++) {
                rest &= gains(one, other, k, b) <= gains(one, other, a, b);
                rest &= gains(other, one, k, a) <= gains(other, one, b, a);
            }
            if (rest) {
                found.add(r);
            }
        }
        return pick(found, i);
    }

    int odds(int person, int n, int chance) {
        if (person < 0 || person >= people || n < 0 || n > 6 || chance < 0 || chance > 100) {
            return NONE;
        }
        long sum = 0;
        for (int way = 0; way < 1 << n; way++) {
            State s = now.twin();
            long parts = 1000000000L;
            boolean broke = false;
            for (int e = 0; e < n; e++) {
                boolean bed = (way >> e & 1) == 1;
                long in = parts * chance / 100;
                parts = bed ? in : parts - in;
                broke |= (pass(s, bed ? person : -1) >> person & 1) == 1;
            }
            sum += broke ? parts : 0;
        }
        return (int) sum;
    }

    int all(int what) {
        if (people == 0) {
            return NONE;
        }
        int best = 0;
        int free = 0;
        int due = 0;
        for (int i = people - 1; i >= 0; i--) {
            if (what >= 0 && what <= 3 && person(i, what) >= person(best, what)) {
                best = i;
            }
            free |= debt(now, i) == 0 ? 1 << i : 0;
        }
        for (int i = 0; i < wrongs.size(); i++) {
            due |= now.sentenced[i] ? 0 : 1 << i;
        }
        switch (what) {
            case 0: case 1: case 2: case 3:
                for (int i = 0; i < people; i++) {
                    if (person(i, what) == person(best, what)) {
                        return i;
                    }
                }
                return best;
            case 4: return due;
            case 5: return debts(now);
            case 6: return free;
            case 7: return now.windows;
            case 8: return never();
            case 9: return party(0, 0);
            default: return NONE;
        }
    }

    private int never() {
        State s = now.twin();
        boolean[] sits = new boolean[people];
        for (int e = 0; e < 20; e++) {
            int[] seat = book(s, -1);
            for (int i = 0; i < people; i++) {
                sits[i] |= seat[i] != 9;
            }
            pass(s, -1);
        }
        int bits = 0;
        for (int i = 0; i < people; i++) {
            bits |= sits[i] ? 0 : 1 << i;
        }
        return bits;
    }

    private int party(int from, int guests) {
        int best = Integer.bitCount(guests);
        for (int i = from; i < people; i++) {
            boolean fits = true;
            for (int j = 0; j < people; j++) {
                fits &= (guests >> j & 1) == 0 || now.owed[i][j] > 0;
            }
            if (fits) {
                best = Math.max(best, party(i + 1, guests | 1 << i));
            }
        }
        return best;
    }

    int circle(int person, int what) {
        if (person < 0 || person >= people || what < 0 || what > 2) {
            return NONE;
        }
        int bits = 0;
        for (int i = 0; i < (what == 2 ? people : wrongs.size()); i++) {
            boolean in = what == 2 ? now.owed[person][i] > 0
                    : (what == 0 ? wrongs.get(i).who : wrongs.get(i).whom) == person;
            bits |= in ? 1 << i : 0;
        }
        return bits;
    }

    int image() {
        if (people == 0) {
            return NONE;
        }
        image = now.twin();
        return now.evening;
    }

    int back() {
        if (image == null) {
            return NONE;
        }
        now = image.twin();
        past.clear();
        return now.evening;
    }

    int count(int what) {
        boolean there = people > 0;
        switch (what) {
            case 0: return people;
            case 1: return wrongs.size();
            case 2: return laws.size();
            case 3: return sessions.size();
            case 4: return tape.length();
            case 5: return held;
            case 6: return there ? now.evening : 0;
            case 7: return there ? now.coins : 0;
            case 8: return there ? most : 0;
            case 9: return sin;
            case 10: return given.size();
            case 11: return there ? now.log.size() : 0;
            case 12: return past.size();
            default: return HIDDEN;
        }
    }
}
