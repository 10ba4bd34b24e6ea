import java.io.IOException;

/** Each sentence of Terms 3 and of promises 6, 7, 21, 23 to 37 and 40 that names a boundary, with a test of its own. */
public final class AskBoundsTest {
    private static final int NONE = CompanyCourt.NONE;
    private static final int HIDDEN = CompanyCourt.HIDDEN;
    private static final int[] WILD = {Integer.MIN_VALUE, -1, Integer.MAX_VALUE};
    private static final Check CHECK = new Check("AskBoundsTest");

    public static void main(String[] args) throws IOException {
        persons();
        wrongs();
        runs();
        runsAndTheLastEvening();
        behindTheLastEvening();
        owed();
        tonight();
        served();
        servedWithWindows();
        sooner();
        matched();
        matchedOfSeveral();
        firm();
        firmEdges();
        givens();
        graves();
        gravesAsTold();
        gravesOfTwo();
        ask();
        crime();
        game();
        rests();
        odds();
        oddsInBed();
        oddsCut();
        ofSeveralTheLowest();
        allBits();
        never();
        party();
        circle();
        counts();
        CHECK.end();
    }

    private static void says(String words) throws IOException {
        CHECK.says(words);
    }

    private static void due(String call, long got, long want) {
        CHECK.due(call, got, want);
    }

    // ---- promises 6 and 7

    private static void persons() throws IOException {
        says("Of a PERSON: 0 LONELY, 1 BORE, 2 HARD, 3 what he OWES in all, as now. NoSuchElementException: no such"
                + " ones.");
        CompanyCourt x = Check.owing("pl1b2h3;pl4b5h6;pl7b8h9;wg8;wa0v2g7");
        int[][] want = {{1, 2, 3, 15}, {4, 5, 6, 8}, {7, 8, 9, 7}};
        for (int person = 0; person < 3; person++) {
            for (int what = 0; what < 4; what++) {
                due("person " + person + " " + what, Check.person(x, person, what), want[person][what]);
            }
            due("what 4", Check.person(x, person, 4), Check.THROWN);
        }
        due("person 3", Check.person(x, 3, 0), Check.THROWN);
        for (int n : WILD) {
            due("person " + n, Check.person(x, n, 0), Check.THROWN);
            due("what " + n, Check.person(x, 0, n), Check.THROWN);
        }
        due("no county", Check.person(new CompanyCourt(), 0, 0), Check.THROWN);
        x.teach(2);
        x.lunch(1, 2);
        x.evening();
        due("lonely as now", Check.person(x, 2, 0), 6);
        due("a bore as now", Check.person(x, 2, 1), 7);
        due("owes as now", Check.person(x, 0, 3), 14);
        CompanyCourt six = Check.court("p;p;p;p;p;ph9");
        due("the sixth", Check.person(six, 5, 2), 9);
        due("no seventh", Check.person(six, 6, 2), Check.THROWN);
    }

    private static void wrongs() throws IOException {
        says("Of a WRONG: 0 who, 1 to whom, 2 GRAVE, 3 whether SENTENCED (1, 0), 4 WORTH. NONE: no such ones.");
        CompanyCourt x = Check.court("p;p;p;w;wa2v0g5");
        x.sentence(1);
        int[][] want = {{0, 1, 3, 0, 7}, {2, 0, 5, 1, 11}};
        for (int wrong = 0; wrong < 2; wrong++) {
            for (int what = 0; what < 5; what++) {
                due("wrong " + wrong + " " + what, x.wrong(wrong, what), want[wrong][what]);
            }
            due("what 5", x.wrong(wrong, 5), NONE);
        }
        due("wrong 2", x.wrong(2, 0), NONE);
        for (int n : WILD) {
            due("wrong " + n, x.wrong(n, 0), NONE);
            due("what " + n, x.wrong(0, n), NONE);
        }
        due("no county", new CompanyCourt().wrong(0, 0), NONE);
        CompanyCourt eight = Check.court("p;p;w;w;w;w;w;w;w;wg9");
        due("the eighth", eight.wrong(7, 2), 9);
        due("no ninth", eight.wrong(8, 2), NONE);
        says("OWED of two. WORTH of a WRONG: EVENINGS it would be now.");
        due("owed by the one SENTENCED", x.owed(0, 2), 11);
        due("owed by the other one", x.owed(0, 1), 0);
        due("SENTENCED or not", x.wrong(1, 4), 11);
        x.lunch(0, 1);
        due("now", x.wrong(1, 4), 12);
    }

    // ---- promise 21

    private static CompanyCourt withSession(CompanyCourt x, String session) {
        Check.text(x, 2, session);
        return x;
    }

    private static void runs() throws IOException {
        says("RUN of a SESSION: behind how many STEPS the first is that can't be; how many WINDOWS are broken in it.");
        runsUpToWhatCannotBe();
        runsFromStepToStep();
        says("`int run(int session, int what)`: RUN: behind how many (0; NONE: all can be), WINDOWS (1). HIDDEN: no"
                + " such ones, no COUNTY.");
        String county = "sc8;pl9;pl8;p;w;wa1v2";
        String[] sessions = {"e", "s0", "s2", "s0;s0", "s0;s1;e;a01;a12;p01", "s0;s1;e;a01;a12;p01;e", "a01", "p01",
            "e;p01;p02", "e;a01", "a00", "p33", "e;e;e;e;e;e;e;e;e;e;e;e;e;e;e;e", "e;e;e;e;e;e;e;e;e;e;e;e;e;e;e;s9"};
        int[] want = {NONE, NONE, 0, 1, NONE, NONE, 0, 0, NONE, 1, 0, 0, NONE, 15};
        int[] windows = {1, 0, 0, 0, 1, 1, 0, 0, 1, 1, 0, 0, -2, -2};
        for (int i = 0; i < sessions.length; i++) {
            CompanyCourt x = withSession(Check.court(county), sessions[i]);
            due("behind how many of " + sessions[i], x.run(0, 0), want[i]);
            if (windows[i] >= 0) {
                due("windows of " + sessions[i], x.run(0, 1), windows[i]);
            }
            due("as it is", x.count(12) + x.count(6) + x.all(5) + x.all(7), 0);
            due("coins as they are", x.count(7), 8);
            due("done likewise", x.perform(0), want[i] == NONE ? sessions[i].split(";").length : want[i]);
        }
        CompanyCourt sixteen = withSession(Check.court("pl9;pl9"), sessions[12]);
        CompanyCourt twin = Check.court("pl9;pl9");
        twin.evening();
        due("two windows ahead", twin.all(7), 2);
        for (int i = 0; i < 15; i++) {
            twin.evening();
        }
        due("of sixteen evenings", sixteen.run(0, 1), twin.all(7));
        sixteen.perform(0);
        due("those broken ahead are not in it", sixteen.run(0, 1), twinWindows(twin));
        CompanyCourt x = withSession(Check.court("p;p"), "e");
        due("what 2", x.run(0, 2), HIDDEN);
        due("session 1", x.run(1, 0), HIDDEN);
        for (int n : WILD) {
            due("session " + n, x.run(n, 0), HIDDEN);
            due("what " + n, x.run(0, n), HIDDEN);
        }
        due("no session", Check.court("p;p").run(0, 0), HIDDEN);
        CompanyCourt none = withSession(new CompanyCourt(), "e");
        due("no county", none.run(0, 0), HIDDEN);
        due("no county", none.run(0, 1), HIDDEN);
    }

    private static void runsUpToWhatCannotBe() {
        CompanyCourt x = Check.court("pl9;pl8;pl9;p");
        withSession(x, "e;e;e");
        withSession(x, "e;s0;e;e");
        withSession(x, "s0;e;e");
        due("none of three can't be", x.run(0, 0), NONE);
        due("the windows of three", x.run(0, 1), 3);
        due("the second can't be", x.run(1, 0), 1);
        due("the windows ahead of it alone", x.run(1, 1), 2);
        due("the first can't be", x.run(2, 0), 0);
        due("no windows", x.run(2, 1), 0);
        CompanyCourt y = Check.court("pl9;pl8");
        withSession(y, "e;s0;e");
        due("one window ahead of it", y.run(0, 1), 1);
    }

    /** What a step does in a run is done from where the run has come to, not from what is now. */
    private static void runsFromStepToStep() {
        CompanyCourt x = Check.court("sc99;p;p;w");
        String[] sessions = {"s0;a01;a01;a01;a01;a01", "s0;p01;p01", "s0;a01;p01;p01", "s0;e;a01;a01;a01;a01"};
        int[] want = {4, 2, 3, 5};
        for (int i = 0; i < 4; i++) {
            withSession(x, sessions[i]);
            due("run of " + sessions[i], x.run(i, 0), want[i]);
        }
        CompanyCourt owing = Check.court("sc99;p;p;w");
        owing.sentence(0);
        withSession(owing, "a01;a01;a01;a01");
        withSession(owing, "p01;p01");
        withSession(owing, "a01;p01;a01");
        withSession(owing, "e;e;e;e;e;e;p01;p01");
        due("7, 4, 2, 1", owing.run(0, 0), 3);
        due("7, 0", owing.run(1, 0), 1);
        due("7, 4, 0", owing.run(2, 0), 2);
        due("1, 0", owing.run(3, 0), 7);
        due("owed as it is", owing.owed(0, 1), 7);
        int[][] coins = {{1, 0}, {2, 1}, {3, 1}, {4, 2}, {5, 2}, {6, NONE}};
        for (int[] c : coins) {
            CompanyCourt y = Check.court("sm30c" + c[0] + ";p;p;wg9");
            y.sentence(0);
            withSession(y, "a01;a01;a01");
            due("appeals by " + c[0] + " coins", y.run(0, 0), c[1]);
            due("coins as they are", y.count(7), c[0]);
        }
        CompanyCourt pardons = Check.court("sc7;p;p;p;w;wv2");
        withSession(pardons, "s0;s1;p01;p02");
        due("pardons by 7 coins", pardons.run(0, 0), 3);
        CompanyCourt again = Check.court("sc8;p;p;p;w;wv2");
        withSession(again, "s0;s1;p01;p02");
        due("pardons by 8 coins", again.run(0, 0), NONE);
        String[] laws = {"y:d+1", "y:n+1", "y:l-3"};
        String[] after = {"e;s0;a01", "s1;s0;a02", "e;s0;a01"};
        for (int i = 0; i < 3; i++) {
            CompanyCourt y = new CompanyCourt();
            Check.text(y, 1, laws[i]);
            y.law(0);
            Check.text(y, 0, "p;p;p;w;wv2;wv2");
            withSession(y, "s0;a01");
            withSession(y, i == 1 ? "s1;s2;a02" : after[i]);
            due("worth 1 at once by " + laws[i], y.run(0, 0), 1);
            due("worth 2 by then, by " + laws[i], y.run(1, 0), NONE);
        }
    }

    private static int twinWindows(CompanyCourt twin) {
        int before = twin.all(7);
        for (int i = 0; i < 16; i++) {
            twin.evening();
        }
        return twin.all(7) - before;
    }

    private static void runsAndTheLastEvening() throws IOException {
        says("EVENINGS go on behind 999, but not in RUN.");
        CompanyCourt x = Check.pass(Check.court("p;p;w"), 997);
        withSession(x, "e;e");
        withSession(x, "e;e;e");
        withSession(x, "s0;e;e;a01;e");
        due("two at 997", x.run(0, 0), NONE);
        due("three at 997", x.run(1, 0), 2);
        due("among others", x.run(2, 0), 4);
        x.evening();
        due("two at 998", x.run(0, 0), 1);
        x.evening();
        due("two at 999", x.run(0, 0), 0);
        due("no windows at 999", x.run(0, 1), 0);
    }

    private static void behindTheLastEvening() throws IOException {
        says("(Apart, from as it is; EVENINGS go on behind 999");
        CompanyCourt x = Check.pass(Check.court("pl0;pl0;w"), 999);
        x.pardon(0, 1);
        x.sentence(0);
        int owed = x.owed(0, 1);
        due("served behind 999", x.served(), owed);
        due("never behind 999", x.all(8), 0);
        due("tonight at 999", x.tonight(), 10);
        x.pardon(0, 1);
        int evenings = 10 - Check.person(x, x.all(0), 0);
        due("odds behind 999", x.odds(x.all(0), evenings, 0), 1000000000);
        due("odds of one evening less", x.odds(x.all(0), evenings - 1, 0), 0);
        due("999 still", x.count(6), 999);
        due("no act", x.count(12), 40);
    }

    // ---- promises 23 to 26

    private static void owed() throws IOException {
        says("`int owed(int one, int other)`: OWED of two. NONE: no such ones, alike.");
        CompanyCourt x = Check.owing("p;p;p;wa2v1g5");
        for (int one = 0; one < 3; one++) {
            for (int other = 0; other < 3; other++) {
                due("owed " + one + other, x.owed(one, other), one == other ? NONE : one + other == 3 ? 5 : 0);
            }
            due("of 3", x.owed(one, 3), NONE);
            due("3 of", x.owed(3, one), NONE);
            for (int n : WILD) {
                due("of " + n, x.owed(one, n), NONE);
                due(n + " of", x.owed(n, one), NONE);
            }
        }
        due("no county", new CompanyCourt().owed(0, 1), NONE);
    }

    private static void tonight() throws IOException {
        says("TONIGHT: rows of digits by PERSONS (with whom each SITS, 9 alone; the first the highest)");
        due("two alone", Check.court("p;p").tonight(), 99);
        due("two", Check.owing("p;p;w").tonight(), 10);
        due("six alone", Check.court("p;p;p;p;p;p").tonight(), 999999);
        due("six", Check.owing("p;p;p;p;p;p;w;wa2v3;wa4v5").tonight(), 103254);
        due("the last ones", Check.owing("p;p;p;p;p;p;wa5v4").tonight(), 999954);
        due("the first and the last", Check.owing("p;p;p;p;p;p;wa5v0").tonight(), 599990);
        says("`int tonight()`: TONIGHT. NONE: no COUNTY.");
        due("no county", new CompanyCourt().tonight(), NONE);
        due("of a county of two", Check.court("p;p").tonight(), 99);
    }

    /** The first two owe so many evenings more than one another's loneliness could break. */
    private static CompanyCourt owingMany(int debt) {
        return Check.owing("pl0;pl0" + ";wg9".repeat(debt / 30) + (debt % 30 == 0 ? "" : of(debt % 30)));
    }

    private static String of(int debt) {
        StringBuilder s = new StringBuilder();
        for (int left = debt; left > 0; left -= 8) {
            s.append(";wg").append(Math.min(8, left));
        }
        return s.toString();
    }

    private static void served() throws IOException {
        says("SERVED: in how many EVENINGS (0 .. 99) nobody OWES any");
        due("none owed", Check.court("p;p").served(), 0);
        int[] debts = {1, 2, 29, 30, 97, 98};
        for (int debt : debts) {
            due("of two who owe " + debt, owingMany(debt).served(), debt);
        }
        CompanyCourt most = Check.owing("pl0;pl0;wg9;wg9;wg9;wg9");
        due("of two who owe 99", most.served(), 99);
        most.evening();
        due("an evening less", most.served(), 98);
        says("`int served()`: SERVED. NONE: not within 99, no COUNTY.");
        due("no county", new CompanyCourt().served(), NONE);
        due("far beyond", Check.owing("pl0;pl0;pl0;wg9;wg9;wg9;wa1v2g9;wa1v2g9").served(), NONE);
        // Three who owe one another about alike sit in turns, so that nobody breaks a window.
        String three = "pl0;pl0;pl0;wg9;wa1v2g9;wa2v0g9;wg3;wa1v2g3;wa2v0g";
        due("98", Check.owing(three + 2).served(), 98);
        due("99", Check.owing(three + 3).served(), 99);
        due("100", Check.owing(three + 4).served(), NONE);
        CompanyCourt x = Check.owing(three + 4);
        x.evening();
        due("99 then", x.served(), 99);
    }

    private static void servedWithWindows() throws IOException {
        says("nobody OWES any (WINDOWS and all)");
        CompanyCourt x = Check.owing("pl0;pl0;pl9;wg2");
        CompanyCourt twin = Check.owing("pl0;pl0;pl9;wg2");
        int evenings = 0;
        while (twin.all(5) > 0 && evenings < 99) {
            twin.evening();
            evenings++;
        }
        due("the windows", twin.all(7) > 0, 1);
        due("with windows", x.served(), evenings);
        due("more than without", evenings > 2, 1);
        due("no windows yet", x.all(7), 0);
        due("none owed, though lonely", Check.court("pl9;pl9").served(), 0);
    }

    private static void due(String call, boolean got, int want) {
        CHECK.due(call, got ? 1 : 0, want);
    }

    private static void sooner() throws IOException {
        says("the most of: what one alone OWES in all; for each three, what they OWE one another in all; for each"
                + " five, half of what they OWE one another in all, cut upwards");
        due("none", Check.court("p;p").sooner(), 0);
        due("two", Check.owing("p;p;wg7").sooner(), 7);
        due("one of three", Check.owing("p;p;p;wg7;wa1v2g6").sooner(), 13);
        due("three", Check.owing("p;p;p;wg7;wa1v2g6;wa2v0g5").sooner(), 18);
        due("three of six", Check.owing("p;p;p;p;p;p;wa3v4g7;wa4v5g6;wa5v3g5;wg8").sooner(), 18);
        due("one of more", Check.owing("p;p;p;p;wg5;wa0v2g5;wa0v3g5;wa1v2g4").sooner(), 15);
        String ring = "wg4;wa1v2g4;wa2v3g4;wa3v4g4;wa4v0g4";
        due("five", Check.owing("p;p;p;p;p;" + ring).sooner(), 10);
        due("five, cut upwards", Check.owing("p;p;p;p;p;" + ring.replaceFirst("g4", "g5")).sooner(), 11);
        due("five, no need to cut", Check.owing("p;p;p;p;p;" + ring.replaceFirst("g4", "g6")).sooner(), 11);
        due("five, less by one", Check.owing("p;p;p;p;p;" + ring.replaceFirst("g4", "g3")).sooner(), 10);
        due("five of six", Check.owing("p;p;p;p;p;p;wa1v2g4;wa2v3g4;wa3v4g4;wa4v5g4;wa5v1g5").sooner(), 11);
        due("five of six with the first", Check.owing("p;p;p;p;p;p;wa0v2g4;wa2v3g4;wa3v4g4;wa4v5g4;wa5v0g5").sooner(), 11);
        due("six are no five", Check.owing("p;p;p;p;p;p;wg4;wa1v2g4;wa2v3g4;wa3v4g4;wa4v5g4;wa5v0g4").sooner(), 8);
        due("four are no three", Check.owing("p;p;p;p;wg4;wa1v2g4;wa2v3g4;wa3v0g4").sooner(), 8);
        says("SOONER: by how many EVENINGS at least all that is OWED now could be served, were there no WINDOWS");
        due("windows ahead", Check.owing("p;p;pl9;wg2").sooner(), 2);
        due("99", Check.owing("p;p;wg9;wg9;wg9;wg9").sooner(), 99);
        says("`int sooner()`: SOONER. NONE: no COUNTY.");
        due("no county", new CompanyCourt().sooner(), NONE);
        due("of a county of two", Check.court("p;p").sooner(), 0);
    }

    // ---- promises 27 and 28

    private static void matched() throws IOException {
        says("`int matched(int what)`: MATCH: the row (0), how much (1). NONE: no COUNTY, no such what.");
        CompanyCourt x = Check.owing("pl5;pl8;pl2;pl9;w;wa1v2;wa2v3");
        due("the row", x.matched(0), 1032);
        due("how much", x.matched(1), 24);
        due("what 2", x.matched(2), NONE);
        for (int n : WILD) {
            due("what " + n, x.matched(n), NONE);
        }
        due("no county", new CompanyCourt().matched(0), NONE);
        due("no county", new CompanyCourt().matched(1), NONE);
        says("MATCH: rows as for TONIGHT of any two who OWE EVENINGS to one another, by which LONELY of all who SIT is"
                + " most together");
        due("nobody owes", Check.court("pl9;pl9").matched(0), 99);
        due("nobody owes", Check.court("pl9;pl9").matched(1), 0);
        due("one evening is enough", Check.owing("pl9;pl9;wg1").matched(0), 10);
        due("how much of two", Check.owing("pl9;pl9;wg1").matched(1), 18);
        due("not who owes most", Check.owing("pl1;pl1;pl2;wg9;wa1v2g1").matched(0), 921);
        due("not the first that is", Check.owing("pl1;pl9;pl9;pl1;w;wa1v2;wa0v3").matched(0), 3210);
        due("all of six", Check.owing("pl9;pl9;pl9;pl9;pl9;pl9;w;wa2v3;wa4v5").matched(1), 54);
        CompanyCourt now = Check.owing("pl5;pl6;pl7;pl0;w;wa1v2");
        due("the second and the third", now.matched(0), 9219);
        due("13 together", now.matched(1), 13);
        now.lunch(2, 3);
        due("the first and the second now", now.matched(0), 1099);
        due("11 together now", now.matched(1), 11);
        now.evening();
        due("behind an evening", now.matched(0), 9219);
        due("11 together then", now.matched(1), 5 + 6);
    }

    private static void matchedOfSeveral() throws IOException {
        CompanyCourt again = Check.court("p;p;p;p;p;p");
        Check.text(again, 0, "p;p;p;wa2v1");
        again.sentence(0);
        due("of another county", again.matched(0), 921);
        Check.text(again, 0, "p;p;p;p;p;p;wa5v4");
        again.sentence(0);
        due("of a third county", again.matched(0), 999954);
        says("(of several the least row; who could SIT may be left alone): the row; how much.");
        due("all alike", Check.owing("pl3;pl3;pl3;w;wa1v2;wa2v0").matched(0), 109);
        due("all of four", Check.owing("pl3;pl3;pl3;pl3;w;wa1v2;wa2v3;wa3v0").matched(0), 1032);
        due("of two alike", Check.owing("pl3;pl3;pl3;pl3;wa1v2;wa2v3;wa3v0;wa0v2").matched(0), 3210);
        due("who are not lonely sit", Check.owing("pl0;pl0;w").matched(0), 10);
        due("who are not lonely sit", Check.owing("pl0;pl0;w").matched(1), 0);
        due("who are not lonely sit too", Check.owing("pl5;pl5;pl0;pl0;w;wa2v3").matched(0), 1032);
        due("left alone", Check.owing("pl1;pl9;pl9;pl1;w;wa1v2;wa2v3").matched(0), 1032);
        due("two are left alone", Check.owing("pl1;pl9;pl9;pl1;wa1v2;wa2v0").matched(0), 9219);
    }

    private static void firm(String county, int... rows) {
        CompanyCourt x = Check.court(county);
        due("how many by " + county, x.firm(NONE), rows.length);
        for (int i = 0; i < rows.length; i++) {
            due(i + " by " + county, x.firm(i), rows[i]);
        }
        due("one more by " + county, x.firm(rows.length), NONE);
    }

    private static void firm() throws IOException {
        says("`int firm(int i)`: FIRM: how many (i NONE), the i-th. NONE: no such one, no COUNTY.");
        firm("pl0b0;pl0b0", 10, 99);
        firm("pl5b2;pl5b2;pl5b2;pl5b2", 1032, 2301, 3210);
        firm("pl0b0;pl0b0;pl0b0;pl0b0", 1032, 1099, 2301, 2909, 3210, 3990, 9219, 9391, 9932, 9999);
        CompanyCourt x = Check.court("pl0b0;pl0b0;pl0b0;pl0b0;pl0b0;pl0b0");
        due("all rows of six", x.firm(NONE), 76);
        due("the first", x.firm(0), 103254);
        due("the last", x.firm(75), 999999);
        due("no more", x.firm(76), NONE);
        due("-2", x.firm(-2), NONE);
        due("the lowest", x.firm(Integer.MIN_VALUE), NONE);
        due("the highest", x.firm(Integer.MAX_VALUE), NONE);
        for (int i = 1; i < 76; i++) {
            due("rising", x.firm(i) > x.firm(i - 1), 1);
        }
        due("all rows of five", Check.court("pl0b0;pl0b0;pl0b0;pl0b0;pl0b0").firm(NONE), 26);
        due("all rows of three", Check.court("pl0b0;pl0b0;pl0b0").firm(NONE), 4);
        due("no county", new CompanyCourt().firm(NONE), NONE);
        due("no county", new CompanyCourt().firm(0), NONE);
    }

    private static void firmEdges() throws IOException {
        says("LIKING of one for another: how LONELY he is, less what a BORE the other is.");
        due("from -9", Check.court("pl0b0;pl0b9").game(0, 1, 1, 1, 0), -9 - 3);
        due("to 9", Check.court("pl9b9;pl9b0").game(0, 1, 1, 1, 0), 9 - 3);
        due("of the one, not of the other", Check.court("pl7b1;pl2b4").game(0, 1, 1, 1, 0), 7 - 4 - 3);
        CompanyCourt now = Check.court("pl3b3;pl3b4");
        due("at first", now.game(0, 1, 1, 0, 0) * 10 + now.game(0, 1, 1, 0, 1), 12);
        due("they don't sit", now.firm(0), 99);
        now.teach(1);
        due("a bore as now", now.game(0, 1, 1, 0, 0), 2);
        due("they may sit", now.firm(0), 10);
        due("both rows", now.firm(NONE), 2);
        now.lunch(0, 1);
        due("lonely as now", now.game(0, 1, 1, 0, 0) * 10 + now.game(0, 1, 1, 0, 1), 0);
        due("they don't sit now", now.firm(0), 99);
        due("one row", now.firm(NONE), 1);
        Check.pass(now, 4);
        due("lonelier", now.game(0, 1, 1, 0, 0), 5 - 3 + 2);
        due("they sit", now.firm(0), 10);
        due("they alone", now.firm(NONE), 1);
        says("nobody SITS with one for whom his LIKING is below 0 and no two who do not SIT together both have more"
                + " LIKING for one another than for whom they SIT with (alone: 0): how many, the i-th (rising).");
        firm("pl0b0;pl1b0", 10, 99);
        firm("pl1b0;pl1b0", 10);
        firm("pl0b0;pl0b1", 99);
        firm("pl1b0;pl0b1", 10, 99);
        firm("pl2b1;pl2b1", 10);
        firm("pl1b1;pl2b1", 10, 99);
        firm("pl9b9;pl8b9", 99);
        firm("pl9b9;pl9b9", 10, 99);
        // One is left for another only if both like one another more.
        firm("pl5b1;pl5b2;pl5b3", 109);
        firm("pl5b1;pl5b1;pl5b3", 109);
        firm("pl5b3;pl5b1;pl5b1", 921);
        firm("pl5b2;pl5b2;pl5b2", 109, 290, 921);
        firm("pl5b1;pl5b2;pl5b3;pl5b4", 1032);
        firm("pl5b1;pl5b1;pl5b1;pl5b6", 1099, 2909, 9219);
        firm("pl5b1;pl5b1;pl5b1;pl5b1;pl5b9;pl5b9", 103299, 230199, 321099);
        due("six alike", Check.court("pl5b1;pl5b1;pl5b1;pl5b1;pl5b1;pl5b1").firm(NONE), 15);
        due("the first of six a bore", Check.court("pl5b3;pl5b1;pl5b1;pl5b1;pl5b1;pl5b1").firm(NONE), 15);
        due("the last of six a bore", Check.court("pl5b1;pl5b1;pl5b1;pl5b1;pl5b1;pl5b3").firm(NONE), 15);
        CompanyCourt x = Check.court("pl0b0;pl0b0;pl0b0;pl0b0;pl0b0;pl0b0");
        Check.text(x, 0, "pl5b1;pl5b2");
        due("of another county", x.firm(NONE), 1);
        due("of another county", x.firm(0), 10);
        Check.text(x, 0, "pl0b0;pl0b0;pl0b0");
        due("of a third county", x.firm(NONE), 4);
        due("of a third county", x.firm(3), 999);
        says("FIRM: rows of digits as for TONIGHT (anybody may SIT with anybody, 9 alone) by which");
        due("owed or not", Check.court("pl5b1;pl5b2").firm(0), 10);
        due("owed or not", Check.owing("pl5b1;pl5b2;w").firm(0), 10);
    }

    // ---- promises 29 to 32

    private static void givens() throws IOException {
        says("GIVEN (10 at most): a WRONG was worth n (1 .. 30) EVENINGS or more, or was not");
        CompanyCourt x = Check.court("p;p;w;w");
        int[] wild = {Integer.MIN_VALUE, -1, 0, 31, Integer.MAX_VALUE};
        for (int n : wild) {
            due("n " + n, x.given(0, n, true), NONE);
            due("n " + n, x.given(0, n, false), NONE);
        }
        due("none yet", x.count(10), 0);
        due("1", x.given(0, 1, true), 1);
        due("30", x.given(0, 30, false), 2);
        for (int i = 3; i <= 10; i++) {
            due("the like", x.given(1, 30, true), i);
        }
        due("an eleventh", x.given(0, 1, true), NONE);
        due("ten", x.count(10), 10);
        due("the eleventh is not given", x.graves(0, NONE), 9);
        CompanyCourt eleven = Check.court("p;p;w");
        for (int i = 0; i < 10; i++) {
            eleven.given(0, 1, true);
        }
        eleven.given(0, 30, true);
        due("the eleventh is not given", eleven.graves(0, NONE), 9);
        says("`int given(int wrong, int n, boolean more)`: GIVEN: how many there are. NONE: no such WRONG, out of"
                + " bounds, there are ten.");
        CompanyCourt y = Check.court("p;p;w;w;w;w;w;w;w;w");
        due("the eighth", y.given(7, 1, true), 1);
        due("no ninth", y.given(8, 1, true), NONE);
        for (int n : WILD) {
            due("wrong " + n, y.given(n, 1, true), NONE);
        }
        due("no county", new CompanyCourt().given(0, 1, true), NONE);
        due("no wrong", Check.court("p;p").given(0, 1, true), NONE);
        due("no act", y.count(12), 0);
    }

    /** By which graves a wrong is worth what its grave is. */
    private static CompanyCourt byGrave() {
        CompanyCourt x = new CompanyCourt();
        Check.text(x, 1, "y:g");
        x.law(0);
        Check.text(x, 0, "p;p;w;wa1v0");
        return x;
    }

    private static void graves() throws IOException {
        says("GRAVES of a WRONG: how GRAVE (1 .. 9) it may be so that all GIVEN of it is so: how many, the i-th (rising)");
        for (int n = 1; n <= 30; n++) {
            CompanyCourt more = byGrave();
            more.given(0, n, true);
            int many = Math.max(0, 10 - n);
            due(n + " or more", more.graves(0, NONE), many);
            for (int i = 0; i < many; i++) {
                due("the one " + i, more.graves(0, i), n + i);
            }
            due("no one behind", more.graves(0, many), NONE);
            due("of another one", more.graves(1, NONE), 9);
            CompanyCourt less = byGrave();
            less.given(0, n, false);
            due("less than " + n, less.graves(0, NONE), Math.min(9, n - 1));
            due("the first", less.graves(0, 0), n == 1 ? NONE : 1);
            if (n > 1) {
                due("the last", less.graves(0, Math.min(8, n - 2)), Math.min(9, n - 1));
            }
        }
        CompanyCourt x = byGrave();
        x.given(0, 3, true);
        x.given(0, 4, false);
        x.given(1, 9, true);
        due("one alone", x.graves(0, NONE), 1);
        due("3", x.graves(0, 0), 3);
        due("9", x.graves(1, 0), 9);
        x.given(0, 3, false);
        due("none", x.graves(0, NONE), 0);
        due("none", x.graves(0, 0), NONE);
        says("`int graves(int wrong, int i)`: GRAVES: how many (i NONE), the i-th. NONE: no such one, no such WRONG.");
        int[] indexes = {Integer.MIN_VALUE, -2, 9, Integer.MAX_VALUE};
        for (int i : indexes) {
            due("the one " + i, byGrave().graves(0, i), NONE);
        }
        due("wrong 2", byGrave().graves(2, NONE), NONE);
        for (int n : WILD) {
            due("wrong " + n, byGrave().graves(n, NONE), NONE);
        }
        due("no county", new CompanyCourt().graves(0, NONE), NONE);
    }

    private static void gravesAsTold() throws IOException {
        says("(as told, nothing SENTENCED, EVENING 0)");
        String[] laws = {"y:g+n*9", "y:g+d*9", "y:g+9*[4-l]", "y:g+9*[2-b]"};
        for (String law : laws) {
            CompanyCourt x = new CompanyCourt();
            Check.text(x, 1, law);
            x.law(0);
            Check.text(x, 0, "sm30;p;p;w;w");
            x.given(0, 5, true);
            x.sentence(1);
            x.evening();
            x.lunch(0, 1);
            x.teach(1);
            x.years(3, 4);
            due("graves by " + law, x.graves(0, NONE), 5);
            due("the first by " + law, x.graves(0, 0), 5);
            due("ask by " + law, x.ask(0), 7);
            x.image();
            x.back();
            due("behind BACK by " + law, x.graves(0, 0), 5);
        }
    }

    /** Each wrong is weighed by its own two: how hard who did it is, how lonely and how much of a bore the victim was. */
    private static void gravesOfTwo() throws IOException {
        says("(as told, nothing SENTENCED, EVENING 0)");
        String county = "sm30;pl1b2h3;pl4b5h6;pl7b8h0;w;wa1v0;wa1v2;wa2v1";
        String[] laws = {"y:g+h", "y:g+l", "y:g+b"};
        int[][] more = {{3, 6, 6, 0}, {4, 1, 7, 4}, {5, 2, 8, 5}};
        for (int i = 0; i < 3; i++) {
            CompanyCourt x = new CompanyCourt();
            Check.text(x, 1, laws[i]);
            x.law(0);
            Check.text(x, 0, county);
            for (int wrong = 0; wrong < 4; wrong++) {
                x.given(wrong, 6, true);
                x.given(wrong, 11, false);
                int least = Math.max(1, 6 - more[i][wrong]);
                int most = Math.min(9, 10 - more[i][wrong]);
                int many = Math.max(0, most - least + 1);
                due("graves of " + wrong + " by " + laws[i], x.graves(wrong, NONE), many);
                due("the first", x.graves(wrong, 0), least);
                due("the last", x.graves(wrong, many - 1), most);
                due("ask", x.ask(wrong), many == 1 ? 1 : least + more[i][wrong] + (many + 1) / 2 - (many % 2));
            }
        }
        CompanyCourt x = Check.court("p;p;p;wa2v1");
        Check.text(x, 0, county);
        int[] least = {1, 1, 1, 4};
        int[] halves = {3 - 2, 6, 6 - 3, 0 - 2};
        for (int wrong = 0; wrong < 4; wrong++) {
            int first = 0;
            for (int grave = 9; grave >= 1; grave--) {
                first = Math.max(1, 2 * grave + halves[wrong]) >= 6 ? grave : first;
            }
            x.given(wrong, 6, true);
            due("by no law, of " + wrong, x.graves(wrong, 0), first);
            due("as many", x.graves(wrong, NONE), 10 - first);
        }
        due("the last needs most", x.graves(3, 0), least[3]);
    }

    private static void ask() throws IOException {
        says("ASK of a WRONG: the n (1 .. 30) for which n or more and less are least apart in number among these (of several the"
                + " least)");
        int[][] bounds = {{1, 10, 5}, {1, 9, 5}, {1, 2, 1}, {1, 3, 2}, {9, 10, 1}, {8, 10, 9}, {7, 10, 8}, {6, 10, 8}};
        for (int[] b : bounds) {
            CompanyCourt x = byGrave();
            x.given(0, b[0], true);
            x.given(0, b[1], false);
            due("ask of " + b[0] + " to " + (b[1] - 1), x.ask(0), b[2]);
        }
        CompanyCourt same = new CompanyCourt();
        Check.text(same, 1, "y:30");
        same.law(0);
        Check.text(same, 0, "sm30;p;p;w");
        due("all alike", same.ask(0), 1);
        CompanyCourt far = new CompanyCourt();
        Check.text(far, 1, "y:g>4?30;y:29");
        far.law(0);
        Check.text(far, 0, "sm30;p;p;w");
        due("30", far.ask(0), 30);
        says("`int ask(int wrong)`: ASK. NONE: nothing fits, no such WRONG.");
        CompanyCourt none = byGrave();
        none.given(0, 10, true);
        due("nothing fits", none.ask(0), NONE);
        due("of another one", none.ask(1), 5);
        due("wrong 2", none.ask(2), NONE);
        for (int n : WILD) {
            due("wrong " + n, none.ask(n), NONE);
        }
        due("no county", new CompanyCourt().ask(0), NONE);
    }

    private static void crime() throws IOException {
        says("CRIME of one against another for n (1 .. 30): how GRAVE (1 .. 9) at least a WRONG would have to be so"
                + " that it is worth n EVENINGS or more now.");
        int[] ns = {Integer.MIN_VALUE, -1, 0, 31, Integer.MAX_VALUE};
        for (int n : ns) {
            due("n " + n, byGrave().crime(0, 1, n), NONE);
        }
        for (int n = 1; n <= 30; n++) {
            due("crime for " + n, byGrave().crime(0, 1, n), n <= 9 ? n : NONE);
        }
        CompanyCourt x = new CompanyCourt();
        Check.text(x, 1, "y:g>8?30;y:29");
        x.law(0);
        Check.text(x, 0, "sm30;p;p");
        due("for 30", x.crime(0, 1, 30), 9);
        due("for 29", x.crime(0, 1, 29), 1);
        due("for 31", x.crime(0, 1, 31), NONE);
        CompanyCourt held = Check.court("sm5;p;p");
        due("held within the most", held.crime(0, 1, 6), NONE);
        due("the most", held.crime(0, 1, 5), 2);
        CompanyCourt now = Check.court("pl9h0;pl9h9;pl8h0;w");
        due("by how hard one is", now.crime(1, 0, 10), 3);
        due("and the other", now.crime(0, 1, 10), 7);
        now.lunch(0, 2);
        due("now", now.crime(1, 0, 10), 2);
        says("`int crime(int one, int other, int n)`: CRIME. NONE: by none, no such ones, alike, out of bounds.");
        due("alike", byGrave().crime(1, 1, 1), NONE);
        due("of 2", byGrave().crime(0, 2, 1), NONE);
        due("2 of", byGrave().crime(2, 0, 1), NONE);
        for (int n : WILD) {
            due("of " + n, byGrave().crime(0, n, 1), NONE);
            due(n + " of", byGrave().crime(n, 0, 1), NONE);
            due("alike " + n, byGrave().crime(n, n, 1), NONE);
        }
        due("by none", byGrave().crime(0, 1, 10), NONE);
        due("no county", new CompanyCourt().crime(0, 1, 1), NONE);
    }

    // ---- promises 33 to 35

    private static void game() throws IOException {
        says("what one has: LIKING for whom he names (himself, one that there is not: -9), 3 less, if both name the same one, 2"
                + " more, if they name one another");
        String county = "pl9b1;pl6b3;pl4b7;pl2b9";
        int[] lonely = {9, 6, 4, 2};
        int[] bore = {1, 3, 7, 9};
        CompanyCourt[] courts = new CompanyCourt[13];
        for (int i = 0; i < 13; i++) {
            courts[i] = Check.court(county);
        }
        int calls = 0;
        for (int one = 0; one < 4; one++) {
            for (int other = 0; other < 4; other++) {
                for (int x = 0; x < 6 && one != other; x++) {
                    for (int y = 0; y < 6; y++) {
                        int bonus = (x == y ? -3 : 0) + (x == other && y == one ? 2 : 0);
                        int first = (x == one || x > 3 ? -9 : lonely[one] - bore[x]) + bonus;
                        int second = (y == other || y > 3 ? -9 : lonely[other] - bore[y]) + bonus;
                        CompanyCourt court = courts[calls++ / 100];
                        due("the first by " + one + other + x + y, court.game(one, other, x, y, 0), first);
                        due("the second by " + one + other + x + y, court.game(one, other, x, y, 1), second);
                    }
                }
            }
        }
        says("GAME of two: x, y whom each names (0 .. 5)");
        int[] names = {Integer.MIN_VALUE, -1, 6, Integer.MAX_VALUE};
        for (int n : names) {
            due("x " + n, courts[12].game(0, 1, n, 0, 0), HIDDEN);
            due("y " + n, courts[12].game(0, 1, 0, n, 0), HIDDEN);
        }
        CompanyCourt six = Check.court("p;p;p;p;p;pb0");
        due("the sixth", six.game(0, 1, 5, 0, 0), 4);
        due("of five none", Check.court("p;p;p;p;p").game(0, 1, 5, 0, 0), -9);
        says("`int game(int one, int other, int x, int y, int what)`: GAME: what the first has (0), the second (1)."
                + " HIDDEN: no such ones, alike, out of bounds.");
        due("alike", six.game(2, 2, 0, 1, 0), HIDDEN);
        due("of 6", six.game(0, 6, 0, 1, 0), HIDDEN);
        due("6 of", six.game(6, 0, 0, 1, 0), HIDDEN);
        due("what 2", six.game(0, 1, 0, 1, 2), HIDDEN);
        for (int n : WILD) {
            due("of " + n, six.game(0, n, 0, 1, 0), HIDDEN);
            due(n + " of", six.game(n, 0, 0, 1, 0), HIDDEN);
            due("what " + n, six.game(0, 1, 0, 1, n), HIDDEN);
        }
        due("no county", new CompanyCourt().game(0, 1, 1, 0, 0), HIDDEN);
    }

    private static void rests(String county, int... names) {
        CompanyCourt x = Check.court(county);
        due("how many by " + county, x.rests(0, 1, NONE), names.length);
        for (int i = 0; i < names.length; i++) {
            due(i + " by " + county, x.rests(0, 1, i), names[i]);
        }
        due("one more by " + county, x.rests(0, 1, names.length), NONE);
    }

    private static void rests() throws IOException {
        says("RESTS: 10 times x and y (PERSONS there are) by which neither has more by another of his own: how many, the i-th"
                + " (rising)");
        // Of two: one another, or each himself where nobody is liked more than -9 and 3 less.
        rests("pl9b0;pl9b0", 10);
        rests("pl0b9;pl0b9", 1, 10);
        rests("pl0b9;pl1b9", 1, 10);
        rests("pl1b8;pl0b9", 1, 10);
        rests("pl5b5;pl5b5;pl5b0;pl5b1", 23, 32);
        rests("pl5b5;pl5b5;pl5b0;pl5b4", 22);
        rests("pl5b5;pl5b5;pl5b2;pl5b9", 12, 20, 22);
        rests("pl5b5;pl5b5;pl5b3;pl5b9", 10, 12, 20);
        rests("pl5b5;pl5b5;pl5b4;pl5b9", 10);
        rests("pl5b5;pl5b4;pl5b3;pl5b9", 10, 12);
        rests("pl5b4;pl5b5;pl5b3;pl5b9", 10, 20);
        rests("pl5b5;pl5b5;pl5b1;pl5b9", 22);
        rests("pl5b9;pl5b9;pl5b9;pl5b9;pl5b0;pl5b0", 45, 54);
        CompanyCourt x = Check.court("pl5b5;pl5b5;pl5b0;pl5b1");
        due("of others", x.rests(2, 3, NONE) > 0, 1);
        says("`int rests(int one, int other, int i)`: RESTS: how many (i NONE), the i-th. NONE: no such one, no such"
                + " PERSONS, alike.");
        int[] indexes = {Integer.MIN_VALUE, -2, 2, Integer.MAX_VALUE};
        for (int i : indexes) {
            due("the one " + i, x.rests(0, 1, i), NONE);
        }
        due("alike", x.rests(1, 1, NONE), NONE);
        due("of 4", x.rests(0, 4, NONE), NONE);
        due("4 of", x.rests(4, 0, NONE), NONE);
        for (int n : WILD) {
            due("of " + n, x.rests(0, n, NONE), NONE);
            due(n + " of", x.rests(n, 0, NONE), NONE);
        }
        due("no county", new CompanyCourt().rests(0, 1, NONE), NONE);
    }

    private static void odds() throws IOException {
        says("ODDS of one for n (0 .. 6) EVENINGS and a chance (0 .. 100)");
        CompanyCourt x = Check.court("pl9;p;pl4");
        int[] ns = {Integer.MIN_VALUE, -1, 7, Integer.MAX_VALUE};
        for (int n : ns) {
            due("n " + n, x.odds(0, n, 50), NONE);
        }
        int[] chances = {Integer.MIN_VALUE, -1, 101, Integer.MAX_VALUE};
        for (int chance : chances) {
            due("chance " + chance, x.odds(0, 1, chance), NONE);
        }
        int[] good = {0, 1, 50, 99, 100};
        for (int chance : good) {
            due("no evening", x.odds(0, 0, chance), 0);
            due("one evening", x.odds(0, 1, chance), 1000000000);
            due("six evenings of 4", Check.court("pl4;pl4").odds(0, 6, chance), 1000000000);
            due("five evenings of 4", Check.court("pl4;pl4").odds(0, 5, chance), 0);
        }
        says("`int odds(int person, int n, int chance)`: ODDS. NONE: no such one, out of bounds.");
        due("the last", x.odds(2, 1, 0), 0);
        due("one behind", x.odds(3, 1, 0), NONE);
        for (int n : WILD) {
            due("of " + n, x.odds(n, 1, 0), NONE);
        }
        due("no county", new CompanyCourt().odds(0, 1, 0), NONE);
    }

    private static void oddsInBed() throws IOException {
        says("ahead of each he stays in bed by chance (he does not SIT that EVENING, the BOOK passes him over)");
        CompanyCourt x = Check.owing("pl9;pl9;wg1");
        for (int chance = 0; chance <= 100; chance++) {
            due("by " + chance, x.odds(0, 1, chance), 10000000 * chance);
        }
        // While the first is in bed the other two sit, so that the second is not the one who breaks it.
        CompanyCourt y = Check.owing("pl9;pl9;pl9;wg9;wa1v2g8");
        due("the first", y.odds(0, 1, 30), 300000000);
        due("the second", y.odds(1, 1, 30), 300000000);
        due("the third, whoever is in bed", y.odds(2, 1, 30), 1000000000);
        // The others sit as if he were not there, whichever number he has: by that they owe less the next evening.
        String[] passed = {"pl8;pl4;pl4;wa1v2g3;wg3", "pl4;pl8;pl4;wa0v2g3;wa1v2g3", "pl4;pl4;pl8;wg3;wa1v2g3"};
        int[] odds = {250000000, 500000000, 500000000};
        for (int i = 0; i < 3; i++) {
            due("of the person " + i, Check.owing(passed[i]).odds(i, 2, 50), odds[i]);
        }
        says("those by which he breaks a WINDOW in one or more of them");
        due("in bed ahead of the first or twice later", Check.owing("pl9;pl9;wg9").odds(0, 3, 30), 300000000 + 63000000);
        due("in bed always", Check.owing("pl4;pl4;wg9").odds(0, 6, 100), 1000000000);
        due("in bed always, too few", Check.owing("pl3;pl3;wg9").odds(0, 6, 100), 0);
        due("never in bed", Check.owing("pl9;pl9;wg9").odds(0, 6, 0), 0);
    }

    private static void oddsCut() throws IOException {
        says("of 10 to the 9 parts those by which he breaks a WINDOW in one or more of them (of each part chance"
                + " 100ths, cut, in bed)");
        due("24 of 24.3", Check.owing("pl5;pl0;wg9").odds(0, 5, 3), 24);
        due("0 of 0.1", Check.owing("pl5;pl0;wg9").odds(0, 5, 1), 0);
        due("all of 99 each", Check.owing("pl5;pl0;wg9").odds(0, 5, 99), 950990049);
        // Five of six: none may be missed but the sixth, else he is not 9 in time.
        due("five and any", Check.owing("pl5;pl0;wg9").odds(0, 6, 3), 24);
        due("up once, then in bed", Check.owing("pl6;pl0;wg9").odds(0, 5, 3), 810);
    }

    // ---- promises 36, 37 and 40

    private static void ofSeveralTheLowest() throws IOException {
        says("LONELIEST, BORE, HARDEST: the PERSON (of several the lowest); GUILTIEST: who OWES most in all.");
        CompanyCourt same = Check.court("pl4b5h6;pl4b5h6;pl4b5h6");
        CompanyCourt last = Check.owing("pl0b0h0;pl0b0h0;pl1b1h1;wa2v0g1;wa2v1g1");
        CompanyCourt two = Check.owing("pl0b0h0;pl9b9h9;pl9b9h9;wg5;wa1v2g6;wa2v0g5");
        for (int what = 0; what < 4; what++) {
            due("of several alike", same.all(what), 0);
            due("of several the last", last.all(what), 2);
            due("of several the second", two.all(what), 1);
        }
        String[] sides = {"pl9b0h0", "pl0b9h0", "pl0b0h9", "pl0b0h0"};
        for (int turn = 0; turn < 4; turn++) {
            StringBuilder county = new StringBuilder();
            for (int i = 0; i < 4; i++) {
                county.append(sides[(i + turn) % 4]).append(';');
            }
            int guilty = (7 - turn) % 4;
            for (int i = 0; i < 4; i++) {
                county.append(i == guilty ? "" : ";wa" + guilty + "v" + i + "g1");
            }
            CompanyCourt x = Check.owing(county.toString().replace(";;", ";"));
            for (int what = 0; what < 4; what++) {
                due("each another one, " + what, x.all(what), (what + 4 - turn) % 4);
            }
        }
        CompanyCourt now = Check.court("pl6b4;pl5b3;pl4b2");
        now.lunch(0, 2);
        now.teach(0);
        now.teach(0);
        due("the loneliest now", now.all(0), 1);
        due("the bore now", now.all(1), 1);
        now.teach(1);
        due("of several the lowest now", now.all(1), 0);
        now.lunch(1, 0);
        due("of two now", now.all(0), 1);
        now.undo();
        now.lunch(1, 2);
        due("the first again", now.all(0), 0);
        CompanyCourt six = Check.court("pl9b9h0;p;p;p;p;pl0b9h9");
        due("the loneliest", six.all(0), 0);
        due("the bore", six.all(1), 0);
        due("the hardest", six.all(2), 5);
        due("the guiltiest, nobody owing", six.all(3), 0);
    }

    private static void allBits() throws IOException {
        says("DUE: WRONGS (bits) not SENTENCED.");
        due("none", Check.court("p;p").all(4), 0);
        CompanyCourt x = Check.court("p;p;w;w;w;w;w;w;w;w");
        due("all eight", x.all(4), 255);
        x.sentence(7);
        due("but the eighth", x.all(4), 127);
        x.sentence(0);
        due("but the first, too", x.all(4), 126);
        for (int i = 1; i < 7; i++) {
            x.sentence(i);
        }
        due("none any more", x.all(4), 0);
        says("ALL: what is OWED in all (of two once).");
        due("none", Check.court("p;p").all(5), 0);
        due("of two once", Check.owing("p;p;wg5").all(5), 5);
        due("of all", Check.owing("p;p;p;wg5;wa1v2g4;wa2v0g1;wa1v0g2").all(5), 12);
        says("FREE: PERSONS (bits) who OWE none.");
        due("all", Check.court("p;p;p;p;p;p").all(6), 63);
        due("none", Check.owing("p;p;wg1").all(6), 0);
        due("the last ones", Check.owing("p;p;p;p;p;p;wg1").all(6), 60);
        due("the first ones", Check.owing("p;p;p;p;p;p;wa4v5g1").all(6), 15);
        says("WINDOWS: how many were broken.");
        CompanyCourt y = Check.court("pl9;pl9;pl0");
        due("none", y.all(7), 0);
        y.evening();
        due("two in one evening", y.all(7), 2);
        due("of this county alone", Check.text(y, 0, "pl9;pl0") + y.all(7), 2);
        // Two who owe nothing are lonely till both break a window, owe two, sit twice, and break the next nine later.
        CompanyCourt z = Check.court("pl0;pl0");
        z.sin(0);
        for (int evening = 1; evening <= 200; evening++) {
            z.evening();
            due("windows at " + evening, z.all(7), evening < 10 ? 0 : 2 + 2 * ((evening - 10) / 9));
        }
        says("LONELIEST (0), BORE (1), HARDEST (2), GUILTIEST (3), DUE (4, bits), ALL (5), FREE (6, bits), WINDOWS (7), NEVER"
                + " (8, bits), PARTY (9). NONE: no COUNTY, no such what.");
        CompanyCourt ten = Check.owing("pl4;pl8;pb9;ph9;p;p;wa4v5g5;w");
        ten.undo();
        int[] answers = {1, 2, 3, 4, 2, 5, 15, 0, 0, 2};
        for (int what = 0; what < 10; what++) {
            due("all " + what, ten.all(what), answers[what]);
        }
        CompanyCourt two = Check.court("p;p");
        due("what 10", two.all(10), NONE);
        for (int n : WILD) {
            due("what " + n, two.all(n), NONE);
        }
        for (int what = 0; what < 10; what++) {
            due("no county", new CompanyCourt().all(what), NONE);
        }
    }

    private static void never() throws IOException {
        says("NEVER: PERSONS (bits) who do not SIT in any of the next 20 EVENINGS.");
        // The third has nobody till the first two owe less than he is owed, or till his own windows.
        for (int debt = 15; debt <= 24; debt++) {
            CompanyCourt x = Check.owing("pl0;pl0;pl0" + of(debt) + ";wa1v2g1");
            CompanyCourt twin = Check.owing("pl0;pl0;pl0" + of(debt) + ";wa1v2g1");
            int sat = 0;
            for (int i = 0; i < 20; i++) {
                sat |= twin.tonight() % 10 == 9 ? 0 : 1;
                twin.evening();
            }
            due("never of " + debt, x.all(8), sat == 1 ? 0 : 4);
        }
        due("in the first evening", Check.owing("p;p;p;p;p;p;w;wa2v3;wa4v5").all(8), 0);
        for (int person = 0; person < 3; person++) {
            int one = person == 0 ? 1 : 0;
            int other = 3 - one - person;
            CompanyCourt x = Check.owing("pl0;pl0;pl0" + (";wa" + one + "v" + other + "g9").repeat(3));
            due("he owes nobody enough", x.all(8), 1 << person);
        }
        CompanyCourt late = Check.owing("pl0;pl0;pl0;wg9;wa0v2g9;wa0v2g9");
        int first = 0;
        CompanyCourt twin = Check.owing("pl0;pl0;pl0;wg9;wa0v2g9;wa0v2g9");
        while (twin.tonight() / 10 % 10 == 9 && first < 99) {
            twin.evening();
            first++;
        }
        due("the second sits first behind", first > 20, 1);
        for (int evening = 0; evening <= first; evening++) {
            due("never at " + evening, late.all(8), first - evening >= 20 ? 2 : 0);
            late.evening();
        }
        due("apart", late.count(6), first + 1);
    }

    private static void party() throws IOException {
        says("PARTY: the most PERSONS of whom each two OWE one another any.");
        due("one alone", Check.court("p;p").all(9), 1);
        due("two", Check.owing("p;p;wg1").all(9), 2);
        due("a ring of four", Check.owing("p;p;p;p;wg1;wa1v2g1;wa2v3g1;wa3v0g1").all(9), 2);
        due("three", Check.owing("p;p;p;p;wg1;wa1v2g1;wa2v0g1;wa3v0g1").all(9), 3);
        due("four", Check.owing("p;p;p;p;p;p;wa5v4g1;wa5v3g1;wa5v2g1;wa4v3g1;wa4v2g1;wa3v2g1").all(9), 4);
        due("not quite four", Check.owing("p;p;p;p;p;p;wa5v4g1;wa5v3g1;wa5v2g1;wa4v3g1;wa4v2g1").all(9), 3);
        CompanyCourt all = Check.court("pl9;pl9;pl9;pl9;pl9;pl9");
        all.evening();
        due("all six", all.all(9), 6);
        CompanyCourt five = Check.court("pl9;pl9;pl9;pl9;pl0;pl0");
        five.evening();
        due("five", five.all(9), 5);
    }

    private static void circle() throws IOException {
        says("`int circle(int person, int what)`: WRONGS of one (0), against one (1), his CIRCLE (2), all as bits."
                + " NONE: no such ones.");
        CompanyCourt x = Check.owing("p;p;p;p;p;p;wa5v0g1;wa5v4g1;wa0v5g1;w;w;w;w;wa5v1g1");
        due("wrongs of 5", x.circle(5, 0), 131);
        due("against 5", x.circle(5, 1), 4);
        due("circle of 5", x.circle(5, 2), 19);
        due("wrongs of 1", x.circle(1, 0), 0);
        due("against 1", x.circle(1, 1), 248);
        due("circle of 1", x.circle(1, 2), 33);
        due("wrongs of 3", x.circle(3, 0) + x.circle(3, 1) + x.circle(3, 2), 0);
        x.pardon(5, 1);
        due("wrongs pardoned are wrongs", x.circle(5, 0), 131);
        due("but he is out of the circle", x.circle(5, 2), 17);
        due("person 6", x.circle(6, 0), NONE);
        due("what 3", x.circle(0, 3), NONE);
        for (int n : WILD) {
            due("person " + n, x.circle(n, 0), NONE);
            due("what " + n, x.circle(0, n), NONE);
        }
        due("no county", new CompanyCourt().circle(0, 0), NONE);
        says("WRONGS of one, against one: bits.");
        CompanyCourt none = Check.court("p;p");
        due("no wrongs", none.circle(0, 0) + none.circle(0, 1) + none.circle(1, 0) + none.circle(1, 1), 0);
        for (int who = 0; who < 6; who++) {
            for (int whom = 0; whom < 6; whom++) {
                if (who != whom) {
                    circlesOf(who, whom);
                }
            }
        }
        CompanyCourt eight = Check.court("p;p;wa1v0;w;wa1v0;w;wa1v0;w;wa1v0;w");
        due("each other wrong", eight.circle(1, 0), 85);
        due("the others against him", eight.circle(1, 1), 170);
        eight.sentence(0);
        due("SENTENCED or not", eight.circle(1, 0), 85);
        says("CIRCLE of one: PERSONS (bits) to whom one OWES any.");
        due("of the one", eight.circle(1, 2), 1);
        due("of the other one", eight.circle(0, 2), 2);
        due("nobody owes", none.circle(0, 2) + none.circle(1, 2), 0);
        CompanyCourt all = Check.court("pl0;pl0;pl9;pl0;pl0;pl0");
        all.evening();
        for (int person = 0; person < 6; person++) {
            due("circle of " + person + " behind a window", all.circle(person, 2), person == 2 ? 59 : 4);
        }
        all.pardon(2, 4);
        due("but whom he is pardoned", all.circle(2, 2), 43);
        due("nor the other one", all.circle(4, 2), 0);
    }

    /** All that is told of one wrong by one against another, who alone owe then. */
    private static void circlesOf(int who, int whom) {
        CompanyCourt x = Check.owing("p;p;p;p;p;p;wa" + who + "v" + whom);
        for (int person = 0; person < 6; person++) {
            due("wrongs of " + person, x.circle(person, 0), person == who ? 1 : 0);
            due("wrongs against " + person, x.circle(person, 1), person == whom ? 1 : 0);
            due("circle of " + person, x.circle(person, 2), person == who ? 1 << whom : person == whom ? 1 << who : 0);
        }
        due("free", x.all(6), 63 - (1 << who) - (1 << whom));
    }

    private static void counts() throws IOException {
        says("0 PERSONS, 1 WRONGS, 2 LAWS, 3 SESSIONS, 4 bytes of the TAPE, 5 the LAW that holds (NONE), 6 the EVENING, 7"
                + " COINS, 8 the most EVENINGS for a WRONG (0: no COUNTY), 9 SIN, 10 GIVEN, 11 how long the LOG is, 12"
                + " ACTS that can be UNDONE. HIDDEN for others.");
        int[] empty = {0, 0, 0, 0, 0, NONE, 0, 0, 0, 3, 0, 0, 0};
        CompanyCourt x = new CompanyCourt();
        for (int i = 0; i < 13; i++) {
            due("count " + i, x.count(i), empty[i]);
        }
        due("count 13", x.count(13), HIDDEN);
        for (int n : WILD) {
            due("count " + n, x.count(n), HIDDEN);
        }
        CompanyCourt y = Check.owing("p;p;p;w;w");
        Check.text(y, 1, "y:1");
        Check.text(y, 2, "e");
        Check.tape(y, "seven..");
        y.sin(9);
        y.given(0, 1, true);
        y.evening();
        y.evening();
        y.evening();
        y.give(50);
        int[] full = {3, 2, 2, 1, 7, 0, 3, 149, 30, 9, 1, 3, 6};
        for (int i = 0; i < 13; i++) {
            due("count " + i, y.count(i), full[i]);
        }
    }
}
