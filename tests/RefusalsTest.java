import java.io.IOException;

/**
 * What is refused answers as told and changes nothing: for each call and each reason two objects are made alike, the call
 * is refused by the one alone, and from then on both answer alike, back through their acts and image, and on again.
 */
public final class RefusalsTest {
    private static final int NONE = CompanyCourt.NONE;
    private static final int HIDDEN = CompanyCourt.HIDDEN;
    private static final int[] WILD = {Integer.MIN_VALUE, -2, 100, Integer.MAX_VALUE};
    private static final Check CHECK = new Check("RefusalsTest");
    private static final Twins TWINS = new Twins(CHECK);

    private interface Maker {
        CompanyCourt make();
    }

    private interface Call {
        long of(CompanyCourt x);
    }

    public static void main(String[] args) throws IOException {
        says("What is refused answers as told and changes nothing.");
        tapes();
        texts();
        numbersHeld();
        sentences();
        evenings();
        twos();
        coins();
        undone();
        sessions();
        asked();
        wrongsAsked();
        pairsAsked();
        withoutCounty();
        behindManyActs();
        says("(Apart, from as it is;");
        apart();
        faultsApart();
        CHECK.end();
    }

    private static void says(String words) throws IOException {
        CHECK.says(words);
    }

    private static void refused(String name, Maker maker, long want, Call call) {
        CompanyCourt x = maker.make();
        CHECK.due(name, call.of(x), want);
        CHECK.due(name + " again", call.of(x), want);
        TWINS.alike(name, x, maker.make());
    }

    private static void unchanged(String name, Maker maker, Call call) {
        CompanyCourt x = maker.make();
        long first = call.of(x);
        CHECK.due(name + " again", call.of(x), first);
        TWINS.alike(name, x, maker.make());
    }

    private static long bit(boolean b) {
        return b ? 1 : 0;
    }

    // ---- objects

    /** Two laws of which the second holds, two sessions, four persons, four wrongs, acts, an image, what was given. */
    private static CompanyCourt rich() {
        CompanyCourt x = new CompanyCourt();
        Check.text(x, 1, "y:g=9?30;y:g");
        Check.text(x, 1, "y:g+n+d");
        x.law(1);
        Check.text(x, 2, "s2;e;a01");
        Check.text(x, 2, "e;s9");
        Check.text(x, 0, "sm25c60;pl5b1h4;pl8b3h2;pl2b0h6;pl9b2h3;wa0v1g3;wa2v0g5;wa3v2g1;wa1v3g2");
        x.sentence(0);
        x.sentence(1);
        x.evening();
        x.given(0, 6, true);
        x.given(1, 8, false);
        x.teach(1);
        x.image();
        x.lunch(0, 1);
        x.give(3);
        x.sin(8);
        x.years(2, 5);
        Check.tape(x, "p;pl1;w");
        return x;
    }

    private static CompanyCourt taped(Maker maker, String text) {
        CompanyCourt x = maker.make();
        Check.tape(x, text);
        return x;
    }

    /** A law, a session and a tape, but no county. */
    private static CompanyCourt none() {
        CompanyCourt x = new CompanyCourt();
        Check.text(x, 1, "y:7");
        Check.text(x, 2, "e;s0");
        Check.tape(x, "p;p;w");
        return x;
    }

    /** Four laws, four sessions and ten given. */
    private static CompanyCourt full() {
        CompanyCourt x = Check.court("p;p;w;w");
        for (int i = 0; i < 4; i++) {
            Check.text(x, 1, "y:" + (i + 3));
            Check.text(x, 2, "s" + i + ";e");
        }
        x.law(3);
        for (int i = 0; i < 10; i++) {
            x.given(i % 2, i + 1, i < 5);
        }
        x.sentence(0);
        x.image();
        x.evening();
        return x;
    }

    private static CompanyCourt late(int evening) {
        CompanyCourt x = Check.court("p;p;p;w");
        Check.text(x, 2, "e;e");
        Check.pass(x, evening);
        x.image();
        return x;
    }

    private static CompanyCourt withCoins(int coins) {
        CompanyCourt x = Check.court("sc" + coins + ";p;p;w;w");
        Check.text(x, 2, "s1;e;a01");
        Check.text(x, 2, "p01;e");
        x.sentence(0);
        x.image();
        x.evening();
        return x;
    }

    private static CompanyCourt gifted(int coins) {
        CompanyCourt x = withCoins(99);
        while (x.count(7) + 50 <= coins) {
            x.give(50);
        }
        if (x.count(7) < coins) {
            x.give(coins - x.count(7));
        }
        return x;
    }

    /** More acts than can be undone, each of them with other coins and debts behind it. */
    private static CompanyCourt many() {
        CompanyCourt x = Check.owing("pl5;pl5;pl5;pl5;wg9;wg9;wa2v3g9");
        Check.text(x, 2, "a00");
        for (int i = 0; i < 21; i++) {
            x.give(i + 1);
            x.evening();
        }
        return x;
    }

    // ---- what is refused

    private static void behindManyActs() {
        Maker many = RefusalsTest::many;
        refused("sentence behind many", many, NONE, x -> x.sentence(0));
        refused("appeal behind many", many, NONE, x -> x.appeal(0, 0));
        refused("pardon behind many", many, NONE, x -> x.pardon(0, 4));
        refused("lunch behind many", many, NONE, x -> x.lunch(1, 1));
        refused("teach behind many", many, NONE, x -> x.teach(4));
        refused("give behind many", many, NONE, x -> x.give(51));
        refused("years behind many", many, NONE, x -> x.years(31, 1));
        refused("do behind many", many, 0, x -> x.perform(0));
        refused("do of none behind many", many, NONE, x -> x.perform(1));
    }

    private static void tapes() {
        String blanks = " ".repeat(230);
        refused("feed beyond 240", () -> taped(RefusalsTest::rich, "p;p;w" + blanks), NONE,
                x -> x.feed(0x20202020, 0x20200000, 0, 0, 0));
        refused("feed far beyond 240", () -> taped(RefusalsTest::rich, "y:1" + blanks), NONE,
                x -> x.feed(-1, -1, -1, -1, -1));
        refused("feed the 241st", () -> taped(RefusalsTest::none, "e;s1" + blanks + "      "), NONE,
                x -> x.feed(0, 0, 0, 0, 1));
        refused("end one too many", RefusalsTest::rich, 0, x -> bit(x.end(8)));
        refused("end -1", RefusalsTest::rich, 0, x -> bit(x.end(-1)));
        for (int n : WILD) {
            refused("end " + n, RefusalsTest::rich, 0, x -> bit(x.end(n)));
        }
        refused("end 1 of none", () -> taped(RefusalsTest::rich, ""), 0, x -> bit(x.end(1)));
    }

    private static void texts() {
        String[] counties = {"", "p", "p;p;wa1", "pl1;pl2;pl3;wa0v2g9;sm1;x", "p;p;p;p;p;p;p", "sm31;p;p", "p;p;wv2"};
        String[] laws = {"", "y", "y:9;", "y:9;y:g+", "y:9999+99999", "y:[[[[[[[1]]]]]]]", "y:g=1"};
        String[] sessions = {"", "a0", "s3;e;x", "e;e;e;e;e;e;e;e;e;e;e;e;e;e;e;e;e", "p12;"};
        String[][] all = {counties, laws, sessions};
        Maker[] makers = {RefusalsTest::rich, RefusalsTest::none, RefusalsTest::full};
        for (int sort = 0; sort < 3; sort++) {
            int of = sort;
            for (Maker maker : makers) {
                for (String text : all[sort]) {
                    refused("text " + sort + " of '" + text + "'", () -> taped(maker, text), NONE, x -> x.text(of));
                }
            }
        }
        String[] good = {"p;p;w", "y:1", "e"};
        int[] sorts = {Integer.MIN_VALUE, -1, 3, Integer.MAX_VALUE};
        for (int sort : sorts) {
            for (String text : good) {
                refused("text " + sort, () -> taped(RefusalsTest::rich, text), NONE, x -> x.text(sort));
                refused("fault " + sort, () -> taped(RefusalsTest::rich, text), -2, x -> x.fault(sort));
            }
        }
        refused("a fifth law", () -> taped(RefusalsTest::full, "y:30"), NONE, x -> x.text(1));
        refused("a fifth session", () -> taped(RefusalsTest::full, "a10"), NONE, x -> x.text(2));
    }

    private static void numbersHeld() {
        int[] laws = {Integer.MIN_VALUE, -2, 2, 3, 4, Integer.MAX_VALUE};
        for (int n : laws) {
            refused("law " + n, RefusalsTest::rich, 0, x -> bit(x.law(n)));
        }
        refused("law 4 of four", RefusalsTest::full, 0, x -> bit(x.law(4)));
        refused("law 1 of one", RefusalsTest::none, 0, x -> bit(x.law(1)));
        int[] sins = {Integer.MIN_VALUE, -1, 8, 10, Integer.MAX_VALUE};
        for (int n : sins) {
            refused("sin " + n, RefusalsTest::rich, 0, x -> bit(x.sin(n)));
        }
        refused("sin 3 at first", RefusalsTest::none, 0, x -> bit(x.sin(3)));
        int[] gifts = {Integer.MIN_VALUE, -1, 0, 51, Integer.MAX_VALUE};
        for (int n : gifts) {
            refused("give " + n, RefusalsTest::rich, NONE, x -> x.give(n));
        }
        refused("give beyond 999", () -> gifted(998), NONE, x -> x.give(2));
        refused("give at 999", () -> gifted(999), NONE, x -> x.give(1));
        refused("give 50 at 950", () -> gifted(950), NONE, x -> x.give(50));
    }

    private static void sentences() {
        int[] wrongs = {Integer.MIN_VALUE, -1, 4, 8, 31, 32, Integer.MAX_VALUE};
        for (int n : wrongs) {
            refused("sentence " + n, RefusalsTest::rich, NONE, x -> x.sentence(n));
        }
        refused("sentence again", RefusalsTest::rich, NONE, x -> x.sentence(0));
        refused("sentence again", RefusalsTest::rich, NONE, x -> x.sentence(1));
        refused("sentence without a wrong", () -> Check.court("p;p"), NONE, x -> x.sentence(0));
    }

    private static void evenings() {
        refused("evening at 999", () -> late(999), NONE, CompanyCourt::evening);
        refused("years at 999", () -> late(999), NONE, x -> x.years(1, 1));
        refused("years at 990", () -> late(990), NONE, x -> x.years(10, 1));
        refused("years at 970", () -> late(970), NONE, x -> x.years(30, 1));
        int[] years = {Integer.MIN_VALUE, -1, 0, 31, Integer.MAX_VALUE};
        for (int n : years) {
            refused("years " + n, RefusalsTest::rich, NONE, x -> x.years(n, 3));
        }
        refused("do at 999", () -> late(999), 0, x -> x.perform(0));
    }

    private static void twos() {
        int[][] pairs = {{0, 0}, {3, 3}, {0, 4}, {4, 0}, {-1, 0}, {0, -1}, {6, 1}, {1, 6}, {-1, -1}, {4, 4},
            {Integer.MIN_VALUE, 1}, {1, Integer.MIN_VALUE}, {Integer.MAX_VALUE, 1}, {1, Integer.MAX_VALUE}};
        for (int[] p : pairs) {
            String two = " " + p[0] + " " + p[1];
            refused("appeal" + two, RefusalsTest::rich, NONE, x -> x.appeal(p[0], p[1]));
            refused("pardon" + two, RefusalsTest::rich, NONE, x -> x.pardon(p[0], p[1]));
            refused("lunch" + two, RefusalsTest::rich, NONE, x -> x.lunch(p[0], p[1]));
            refused("owed" + two, RefusalsTest::rich, NONE, x -> x.owed(p[0], p[1]));
            refused("crime" + two, RefusalsTest::rich, NONE, x -> x.crime(p[0], p[1], 1));
            refused("rests" + two, RefusalsTest::rich, NONE, x -> x.rests(p[0], p[1], NONE));
            refused("game" + two, RefusalsTest::rich, HIDDEN, x -> x.game(p[0], p[1], 0, 1, 0));
        }
        refused("appeal of one evening", () -> Check.owing("p;p;wg1"), NONE, x -> x.appeal(0, 1));
        refused("appeal of none", () -> Check.court("p;p;w"), NONE, x -> x.appeal(0, 1));
        refused("pardon of none", () -> Check.court("p;p;w"), NONE, x -> x.pardon(0, 1));
        refused("lunch of two who are 0", () -> Check.court("pl0;p;pl0"), NONE, x -> x.lunch(0, 2));
    }

    private static void coins() {
        refused("appeal by no coin", () -> withCoins(0), NONE, x -> x.appeal(0, 1));
        refused("appeal by a coin", () -> withCoins(1), NONE, x -> x.appeal(0, 1));
        refused("pardon by no coin", () -> withCoins(0), NONE, x -> x.pardon(0, 1));
        refused("pardon by 3 coins", () -> withCoins(3), NONE, x -> x.pardon(0, 1));
        refused("lunch by no coin", () -> withCoins(0), NONE, x -> x.lunch(0, 1));
        refused("teach by no coin", () -> withCoins(0), NONE, x -> x.teach(1));
        refused("teach by 2 coins", () -> withCoins(2), NONE, x -> x.teach(1));
        refused("teach one who is no bore", RefusalsTest::rich, NONE, x -> x.teach(2));
        refused("teach one behind", RefusalsTest::rich, NONE, x -> x.teach(4));
        refused("teach -1", RefusalsTest::rich, NONE, x -> x.teach(-1));
        for (int n : WILD) {
            refused("teach " + n, RefusalsTest::rich, NONE, x -> x.teach(n));
        }
        refused("do a pardon by 3 coins", () -> withCoins(3), 0, x -> x.perform(1));
    }

    private static void undone() {
        refused("undo none", () -> Check.court("p;p"), NONE, CompanyCourt::undo);
        refused("undo behind BACK", () -> {
            CompanyCourt x = rich();
            x.back();
            return x;
        }, NONE, CompanyCourt::undo);
        refused("undo behind the last", () -> {
            CompanyCourt x = withCoins(9);
            x.undo();
            x.undo();
            return x;
        }, NONE, CompanyCourt::undo);
        refused("undo a 41st", () -> {
            CompanyCourt x = rich();
            x.years(30, 1);
            x.years(15, 1);
            for (int i = 0; i < 40; i++) {
                x.undo();
            }
            return x;
        }, NONE, CompanyCourt::undo);
        refused("back without an image", () -> {
            CompanyCourt x = Check.court("pl9;p;w");
            x.sentence(0);
            x.evening();
            return x;
        }, NONE, CompanyCourt::back);
        refused("back to another county", () -> {
            CompanyCourt x = rich();
            Check.text(x, 0, "p;pl9;w");
            x.sentence(0);
            x.evening();
            return x;
        }, NONE, CompanyCourt::back);
    }

    private static void sessions() {
        int[] numbers = {Integer.MIN_VALUE, -1, 2, 3, 4, Integer.MAX_VALUE};
        for (int n : numbers) {
            refused("do " + n, RefusalsTest::rich, NONE, x -> x.perform(n));
            refused("run " + n, RefusalsTest::rich, HIDDEN, x -> x.run(n, 0));
            refused("step of " + n, RefusalsTest::rich, HIDDEN, x -> x.step(n, 0, 0));
            refused("what of run " + n, RefusalsTest::rich, HIDDEN, x -> x.run(0, n));
        }
        int[] steps = {Integer.MIN_VALUE, -1, 3, 16, Integer.MAX_VALUE};
        for (int n : steps) {
            refused("step " + n, RefusalsTest::rich, HIDDEN, x -> x.step(0, n, 0));
            refused("what of step " + n, RefusalsTest::rich, HIDDEN, x -> x.step(0, 0, n));
        }
        refused("do what can't be", () -> {
            CompanyCourt x = rich();
            Check.text(x, 2, "a00;e");
            return x;
        }, 0, x -> x.perform(2));
    }

    private static void asked() {
        int[] people = {Integer.MIN_VALUE, -1, 4, 6, Integer.MAX_VALUE};
        for (int n : people) {
            refused("person " + n, RefusalsTest::rich, Check.THROWN, x -> Check.person(x, n, 0));
            refused("what of person " + n, RefusalsTest::rich, Check.THROWN, x -> Check.person(x, 0, n));
            refused("circle " + n, RefusalsTest::rich, NONE, x -> x.circle(n, 2));
            refused("what of circle " + n, RefusalsTest::rich, NONE, x -> x.circle(0, n == 4 ? 3 : n));
            refused("odds of " + n, RefusalsTest::rich, NONE, x -> x.odds(n, 1, 1));
            refused("what of matched " + n, RefusalsTest::rich, NONE, x -> x.matched(n == 4 ? 2 : n));
            refused("what of all " + n, RefusalsTest::rich, NONE, x -> x.all(n == 4 || n == 6 ? n + 6 : n));
            refused("count " + n, RefusalsTest::rich, HIDDEN, x -> x.count(n == 4 || n == 6 ? n + 9 : n));
        }
        int[] logs = {Integer.MIN_VALUE, -1, 3, 60, Integer.MAX_VALUE};
        for (int n : logs) {
            refused("log " + n, RefusalsTest::rich, NONE, x -> x.log(n, 0));
            refused("what of log " + n, RefusalsTest::rich, NONE, x -> x.log(0, n));
            refused("the firm one " + n, RefusalsTest::rich, NONE, x -> x.firm(n == -1 ? 76 : n));
            refused("evenings of odds " + n, RefusalsTest::rich, NONE, x -> x.odds(0, n == 3 ? 7 : n, 1));
            refused("chance of odds " + n, RefusalsTest::rich, NONE, x -> x.odds(0, 1, n == 3 || n == 60 ? 101 : n));
        }
        refused("log without one", () -> Check.court("p;p"), NONE, x -> x.log(0, 0));
        refused("the 61st of the log", () -> late(70), NONE, x -> x.log(60, 0));
    }

    private static void wrongsAsked() {
        int[] wrongs = {Integer.MIN_VALUE, -1, 4, 8, Integer.MAX_VALUE};
        for (int n : wrongs) {
            refused("wrong " + n, RefusalsTest::rich, NONE, x -> x.wrong(n, 0));
            refused("what of wrong " + n, RefusalsTest::rich, NONE, x -> x.wrong(0, n == 4 ? 5 : n));
            refused("given of " + n, RefusalsTest::rich, NONE, x -> x.given(n, 1, true));
            refused("graves of " + n, RefusalsTest::rich, NONE, x -> x.graves(n, NONE));
            refused("ask of " + n, RefusalsTest::rich, NONE, x -> x.ask(n));
        }
        int[] numbers = {Integer.MIN_VALUE, -1, 0, 31, Integer.MAX_VALUE};
        for (int n : numbers) {
            refused("given " + n, RefusalsTest::rich, NONE, x -> x.given(2, n, true));
            refused("given less than " + n, RefusalsTest::rich, NONE, x -> x.given(2, n, false));
            refused("crime for " + n, RefusalsTest::rich, NONE, x -> x.crime(0, 1, n));
        }
        int[] indexes = {Integer.MIN_VALUE, -2, 9, Integer.MAX_VALUE};
        for (int n : indexes) {
            refused("the grave one " + n, RefusalsTest::rich, NONE, x -> x.graves(0, n));
        }
        refused("an eleventh given", RefusalsTest::full, NONE, x -> x.given(0, 30, true));
        refused("ask where nothing fits", () -> {
            CompanyCourt x = rich();
            x.given(0, 30, true);
            return x;
        }, NONE, x -> x.ask(0));
        refused("crime by none", RefusalsTest::rich, NONE, x -> x.crime(0, 1, 26));
    }

    private static void pairsAsked() {
        int[] names = {Integer.MIN_VALUE, -1, 6, Integer.MAX_VALUE};
        for (int n : names) {
            refused("game, x " + n, RefusalsTest::rich, HIDDEN, x -> x.game(0, 1, n, 0, 0));
            refused("game, y " + n, RefusalsTest::rich, HIDDEN, x -> x.game(0, 1, 0, n, 1));
            refused("game, what " + n, RefusalsTest::rich, HIDDEN, x -> x.game(0, 1, 0, 1, n == 6 ? 2 : n));
            refused("the rest " + n, RefusalsTest::rich, NONE, x -> x.rests(0, 1, n == -1 ? 36 : n));
        }
    }

    private static void withoutCounty() {
        Maker none = RefusalsTest::none;
        refused("no county: sentence", none, NONE, x -> x.sentence(0));
        refused("no county: evening", none, NONE, CompanyCourt::evening);
        refused("no county: appeal", none, NONE, x -> x.appeal(0, 1));
        refused("no county: pardon", none, NONE, x -> x.pardon(0, 1));
        refused("no county: lunch", none, NONE, x -> x.lunch(0, 1));
        refused("no county: teach", none, NONE, x -> x.teach(0));
        refused("no county: give", none, NONE, x -> x.give(1));
        refused("no county: years", none, NONE, x -> x.years(1, 1));
        refused("no county: undo", none, NONE, CompanyCourt::undo);
        refused("no county: log", none, NONE, x -> x.log(0, 0));
        refused("no county: run", none, HIDDEN, x -> x.run(0, 0));
        refused("no county: perform", none, NONE, x -> x.perform(0));
        refused("no county: tonight", none, NONE, CompanyCourt::tonight);
        refused("no county: served", none, NONE, CompanyCourt::served);
        refused("no county: sooner", none, NONE, CompanyCourt::sooner);
        refused("no county: matched", none, NONE, x -> x.matched(0));
        refused("no county: firm", none, NONE, x -> x.firm(NONE));
        refused("no county: given", none, NONE, x -> x.given(0, 1, true));
        refused("no county: graves", none, NONE, x -> x.graves(0, NONE));
        refused("no county: ask", none, NONE, x -> x.ask(0));
        refused("no county: odds", none, NONE, x -> x.odds(0, 1, 1));
        for (int what = 0; what < 10; what++) {
            int of = what;
            refused("no county: all " + what, none, NONE, x -> x.all(of));
        }
        refused("no county: image", none, NONE, CompanyCourt::image);
        refused("no county: back", none, NONE, CompanyCourt::back);
    }

    // ---- what is asked alone

    private static void apart() {
        Maker[] makers = {RefusalsTest::rich, RefusalsTest::full, () -> late(998), () -> withCoins(6)};
        for (Maker maker : makers) {
            unchanged("run", maker, x -> x.run(0, 0));
            unchanged("run, windows", maker, x -> x.run(0, 1));
            unchanged("tonight", maker, CompanyCourt::tonight);
            unchanged("served", maker, CompanyCourt::served);
            unchanged("sooner", maker, CompanyCourt::sooner);
            unchanged("matched", maker, x -> x.matched(0) + x.matched(1));
            unchanged("firm", maker, x -> x.firm(NONE) + x.firm(0));
            unchanged("graves", maker, x -> x.graves(0, NONE) + x.graves(0, 0));
            unchanged("ask", maker, x -> x.ask(0));
            unchanged("crime", maker, x -> x.crime(0, 1, 9));
            unchanged("game", maker, x -> x.game(0, 1, 1, 0, 1));
            unchanged("rests", maker, x -> x.rests(0, 1, NONE) + x.rests(0, 1, 0));
            unchanged("odds", maker, x -> x.odds(0, 6, 40));
            for (int what = 0; what < 10; what++) {
                int of = what;
                unchanged("all " + what, maker, x -> x.all(of));
            }
            unchanged("circle", maker, x -> x.circle(0, 2));
            unchanged("person", maker, x -> Check.person(x, 0, 3));
            unchanged("wrong", maker, x -> x.wrong(0, 4));
        }
    }

    private static void faultsApart() {
        String[] texts = {"pl9;pl9;pl9;sm1c1;wa2v1g9", "y:1+1;y:2", "p01;e;e", "p;p;x", "y:5;", "e;e;"};
        Maker[] makers = {RefusalsTest::rich, RefusalsTest::none, RefusalsTest::full};
        for (Maker maker : makers) {
            for (String text : texts) {
                for (int sort = 0; sort < 3; sort++) {
                    int of = sort;
                    unchanged("fault " + sort + " of '" + text + "'", () -> taped(maker, text), x -> x.fault(of));
                }
            }
        }
    }
}
