import java.util.NoSuchElementException;
import java.util.Random;

/** Runs of drawn calls (always the same draws), each answer held against the model's. */
public final class ModelTest {
    private static final int CALLS = 500;
    private final Random random;
    private final CompanyCourt court = new CompanyCourt();
    private final Model model = new Model();
    private final int run;
    private int call = 0;
    private static int wrong = 0;
    private static long answers = 0;
    private static final int[] told = new int[64];

    private ModelTest(int run) {
        this.run = run;
        this.random = new Random(run * 7919L + 17);
    }

    public static void main(String[] args) {
        int runs = args.length > 0 ? Integer.parseInt(args[0]) : 1500;
        for (int run = 0; run < runs && wrong < 20; run++) {
            new ModelTest(run).all();
        }
        System.out.println("ModelTest: " + answers + " answers, " + wrong + " not as due");
        if (args.length > 1) {
            for (int i = 0; i < told.length; i++) {
                System.out.print(i + ":" + told[i] + " ");
            }
            System.out.println();
        }
        System.exit(wrong == 0 ? 0 : 1);
    }

    private void same(int kind, String name, long got, long want) {
        answers++;
        if (want > -1) {
            told[kind]++;
        }
        if (got != want) {
            wrong++;
            System.out.println("run " + run + " call " + call + ": " + name + " answered " + got + ", due is " + want);
        }
    }

    private int below(int n) {
        return random.nextInt(n);
    }

    private int digit(int around) {
        int n = below(40);
        return n == 0 ? -1 : n == 1 ? around : n == 2 ? Integer.MIN_VALUE : n == 3 ? Integer.MAX_VALUE : below(around);
    }

    private void all() {
        if (below(10) > 0) {
            tell(0, county());
            if (below(2) == 0) {
                tell(1, law());
            }
            if (below(2) == 0) {
                tell(2, session());
            }
        }
        boolean far = below(25) == 0;
        while (call < CALLS && wrong < 20) {
            if (far && call < 60) {
                years(28 + below(3));
            } else if (below(12) == 0) {
                texts();
            } else if (below(3) == 0) {
                act();
            } else {
                ask();
            }
        }
    }

    // ---- texts

    private String blank() {
        return below(15) == 0 ? " " : "";
    }

    private String number(int least, int most) {
        int n = least + below(most - least + 1);
        return (n < 10 && below(8) == 0 ? "0" : "") + n;
    }

    private String items(String letters, int[] least, int[] most, int many) {
        StringBuilder s = new StringBuilder();
        int start = below(3);
        for (int i = 0; i < 3; i++) {
            int k = (i + start) % 3;
            if (k < letters.length() && below(10) < many) {
                s.append(blank()).append(letters.charAt(k)).append(blank()).append(number(least[k], most[k])).append(blank());
            }
        }
        return s.toString();
    }

    private String county() {
        StringBuilder s = new StringBuilder(blank());
        int people = 2 + below(5);
        int all = people;
        int wrongs = below(9);
        int rules = below(2);
        int many = below(11);
        int left = people + wrongs + rules;
        while (left > 0) {
            int kind = below(left);
            if (kind < people) {
                s.append('p').append(items("lbh", new int[3], new int[] {9, below(10), 9}, many));
                people--;
            } else if (kind < people + wrongs) {
                s.append('w').append(below(25) == 0
                        ? items("avg", new int[] {0, 0, 1}, new int[] {below(6), below(6), 9}, many) : wrongOf(all));
                wrongs--;
            } else {
                s.append('s').append(items("mc", new int[] {1, 0}, new int[] {30, 99}, many));
                rules--;
            }
            left--;
            s.append(blank());
            if (left > 0) {
                s.append(';').append(blank());
            }
        }
        return s.toString();
    }

    private String wrongOf(int people) {
        int who = below(people);
        int whom = (who + 1 + below(people - 1)) % people;
        String grave = below(5) == 0 ? "" : "g" + blank() + number(1, 9) + blank();
        return blank() + "a" + who + blank() + "v" + blank() + number(whom, whom) + blank() + grave;
    }

    private String sum(int depth) {
        StringBuilder s = new StringBuilder();
        int n = 1 + below(3) * below(2);
        for (int i = 0; i < n; i++) {
            s.append(i == 0 ? "" : "+-*/*".substring(below(5)).substring(0, 1)).append(blank());
            int kind = below(10);
            if (kind == 0 && depth < 7) {
                s.append('[').append(sum(depth + 1)).append(']');
            } else if (kind < 4) {
                s.append(below(3) == 0 ? below(10000) : below(12));
            } else {
                s.append("ghlbnd".charAt(below(6)));
            }
            s.append(blank());
        }
        return s.toString();
    }

    private String condition(int depth) {
        StringBuilder s = new StringBuilder();
        int n = 1 + below(2) * below(3);
        for (int i = 0; i < n; i++) {
            s.append(i == 0 ? "" : below(2) == 0 ? "&" : "|").append(blank());
            int kind = below(8);
            if (kind == 0 && depth < 8) {
                s.append('(').append(condition(depth + 1)).append(')');
            } else if (kind == 1 && depth < 8) {
                s.append("!").append(below(2) == 0 ? "(" + condition(depth + 2) + ")" : sum(depth) + "=<>".charAt(below(3)) + sum(depth));
            } else {
                s.append(sum(depth)).append("=<>".charAt(below(3))).append(sum(depth));
            }
        }
        return s.toString();
    }

    private String law() {
        StringBuilder s = new StringBuilder();
        int n = 1 + below(3);
        for (int i = 0; i < n; i++) {
            s.append(i == 0 ? "" : ";").append(blank()).append("y").append(blank()).append(":").append(blank());
            if (below(3) > 0) {
                if (below(12) == 0) {
                    for (int k = 3 + below(5); k > 0; k--) {
                        s.append('!');
                    }
                }
                s.append(condition(0)).append("?").append(blank());
            }
            s.append(sum(0));
        }
        return s.toString();
    }

    private String session() {
        StringBuilder s = new StringBuilder();
        int n = below(10) == 0 ? 14 + below(5) : 1 + below(8);
        for (int i = 0; i < n; i++) {
            s.append(i == 0 ? "" : ";").append(blank());
            int kind = below(7);
            int one = below(7);
            int other = below(6);
            s.append(kind < 2 ? "s" + blank() + below(9) : kind < 5 ? "e"
                    : (kind == 5 ? "a" : "p") + blank() + one + blank() + other).append(blank());
        }
        return s.toString();
    }

    private String spoiled(String text) {
        StringBuilder s = new StringBuilder(text);
        String signs = "spwmclbhavgy:?=<>+-*/[]()!&|; 0123456789nde";
        for (int n = 1 + below(2); n > 0; n--) {
            int i = below(s.length() + 1);
            char c = below(30) == 0 ? (char) (1 + below(255)) : signs.charAt(below(signs.length()));
            int kind = below(4);
            if (kind == 0 && i < s.length()) {
                s.deleteCharAt(i);
            } else if (kind == 1 && i < s.length()) {
                s.setCharAt(i, c);
            } else if (kind == 2) {
                s.setLength(i);
            } else {
                s.insert(i, c);
            }
        }
        return s.toString();
    }

    private void feed(String text) {
        call++;
        int[] n = new int[5];
        for (int i = 0; i < text.length(); i += 20) {
            for (int k = 0; k < 5; k++) {
                n[k] = Check.number(text, i + 4 * k);
            }
            same(0, "feed", court.feed(n[0], n[1], n[2], n[3], n[4]), model.feed(n));
        }
    }

    private void end(int n) {
        same(1, "end " + n, court.end(n) ? 1 : 0, model.end(n) ? 1 : 0);
    }

    private void tell(int sort, String text) {
        end(0);
        feed(text);
        call += 2;
        same(2, "fault " + sort + " of " + text, court.fault(sort), model.fault(sort));
        same(3, "text " + sort + " of " + text, court.text(sort), model.text(sort));
    }

    private void texts() {
        call++;
        int sort = below(8);
        String text = sort < 2 ? county() : sort < 5 ? law() : session();
        sort = sort < 2 ? 0 : sort < 5 ? 1 : 2;
        if (below(10) == 0) {
            end(digit(240));
            feed(text);
            int any = digit(3);
            same(4, "fault " + any, court.fault(any), model.fault(any));
            same(3, "text " + any, court.text(any), model.text(any));
            return;
        }
        for (int i = 0; i < 4; i++) {
            String other = spoiled(text);
            end(0);
            feed(other);
            call++;
            same(4, "fault " + sort + " of " + other, court.fault(sort), model.fault(sort));
        }
        if (sort > 0 || below(6) == 0) {
            tell(sort, text);
            int law = below(6) - 1;
            same(5, "law " + law, court.law(law) ? 1 : 0, model.law(law) ? 1 : 0);
        }
    }

    // ---- acts and questions

    private void years(int n) {
        call++;
        long seed = random.nextLong();
        same(6, "years " + n, court.years(n, seed), model.years(n, seed));
    }

    private void act() {
        call++;
        int a = digit(6);
        int b = digit(6);
        switch (below(16)) {
            case 0: case 1: case 2: {
                int w = digit(8);
                same(7, "sentence " + w, court.sentence(w), model.sentence(w));
                break;
            }
            case 3: case 4: same(8, "evening", court.evening(), model.evening()); break;
            case 5: same(9, "appeal " + a + b, court.appeal(a, b), model.appeal(a, b)); break;
            case 6: same(10, "pardon " + a + b, court.pardon(a, b), model.pardon(a, b)); break;
            case 7: same(11, "lunch " + a + b, court.lunch(a, b), model.lunch(a, b)); break;
            case 8: same(12, "teach " + a, court.teach(a), model.teach(a)); break;
            case 9: {
                int n = below(5) == 0 ? digit(52) : 50 - below(30);
                same(13, "give " + n, court.give(n), model.give(n));
                break;
            }
            case 10: years(below(4) == 0 ? digit(33) : 1 + below(5)); break;
            case 11:
                for (int n = below(30) == 0 ? 45 : 1 + below(4); n > 0; n--) {
                    call++;
                    same(14, "undo", court.undo(), model.undo());
                }
                break;
            case 12: same(15, "image", court.image(), model.image()); break;
            case 13:
                if (below(2) == 0) {
                    same(16, "back", court.back(), model.back());
                } else {
                    int n = digit(11);
                    same(17, "sin " + n, court.sin(n) ? 1 : 0, model.sin(n) ? 1 : 0);
                }
                break;
            case 14: {
                int s = digit(5);
                same(18, "perform " + s, court.perform(s), model.perform(s));
                break;
            }
            default: {
                int w = digit(8);
                int n = 1 + digit(25);
                boolean more = below(2) == 0;
                same(19, "given " + w + " " + n + " " + more, court.given(w, n, more), model.given(w, n, more));
            }
        }
    }

    private int thrown(int person, int what, boolean ofModel) {
        try {
            return ofModel ? model.person(person, what) : court.person(person, what);
        } catch (NoSuchElementException e) {
            return Check.THROWN;
        }
    }

    private void ask() {
        call++;
        int a = digit(6);
        int b = digit(6);
        int w = digit(8);
        int i = below(2) == 0 ? -1 : digit(6);
        int what = digit(4);
        switch (below(23)) {
            case 0: same(20, "person " + a + " " + what, thrown(a, what, false), thrown(a, what, true)); break;
            case 1: {
                int k = digit(5);
                same(21, "wrong " + w + " " + k, court.wrong(w, k), model.wrong(w, k));
                break;
            }
            case 2: {
                int k = digit(5) - 1;
                same(22, "law " + k, court.law(k) ? 1 : 0, model.law(k) ? 1 : 0);
                break;
            }
            case 3: {
                int k = digit(62);
                same(23, "log " + k + " " + what, court.log(k, what), model.log(k, what));
                same(23, "log 0 " + what, court.log(0, what), model.log(0, what));
                break;
            }
            case 4: {
                int s = digit(4);
                int k = digit(6);
                same(24, "step " + s + " " + k + " " + what, court.step(s, k, what), model.step(s, k, what));
                break;
            }
            case 5: case 6: {
                int s = digit(3);
                int k = digit(2);
                same(25, "run " + s + " " + k, court.run(s, k), model.run(s, k));
                break;
            }
            case 7: same(26, "owed " + a + b, court.owed(a, b), model.owed(a, b)); break;
            case 8: same(27, "tonight", court.tonight(), model.tonight()); break;
            case 9: same(28, "served", court.served(), model.served()); break;
            case 10: same(29, "sooner", court.sooner(), model.sooner()); break;
            case 11: {
                int k = digit(2);
                same(30, "matched " + k, court.matched(k), model.matched(k));
                break;
            }
            case 12: same(31, "firm " + i, court.firm(i), model.firm(i)); break;
            case 13: same(32, "graves " + w + " " + i, court.graves(w, i), model.graves(w, i)); break;
            case 14: same(33, "ask " + w, court.ask(w), model.ask(w)); break;
            case 15: {
                int n = digit(32);
                same(34, "crime " + a + b + " " + n, court.crime(a, b, n), model.crime(a, b, n));
                break;
            }
            case 16: {
                int p = digit(6);
                int q = digit(6);
                int k = digit(2);
                same(35, "game " + a + b + " " + p + q + " " + k, court.game(a, b, p, q, k), model.game(a, b, p, q, k));
                break;
            }
            case 17: same(36, "rests " + a + b + " " + i, court.rests(a, b, i), model.rests(a, b, i)); break;
            case 18: {
                int n = digit(7);
                int chance = digit(102);
                same(37, "odds " + a + " " + n + " " + chance, court.odds(a, n, chance), model.odds(a, n, chance));
                break;
            }
            case 19: case 20: {
                int k = digit(10);
                same(38 + Math.max(0, Math.min(k, 10)), "all " + k, court.all(k), model.all(k));
                break;
            }
            case 21: {
                int k = digit(3);
                same(49, "circle " + a + " " + k, court.circle(a, k), model.circle(a, k));
                break;
            }
            default: {
                int k = digit(13);
                same(50, "count " + k, court.count(k), model.count(k));
            }
        }
    }
}
