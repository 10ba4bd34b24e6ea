import java.io.IOException;
import java.math.BigInteger;

/** Each sentence of Terms 2 and 4 and of promises 8 to 19, 22, 38 and 39 that names a boundary, with a test of its own. */
public final class ActBoundsTest {
    private static final int NONE = CompanyCourt.NONE;
    private static final int[] WILD = {Integer.MIN_VALUE, -1, Integer.MAX_VALUE};
    private static final Check CHECK = new Check("ActBoundsTest");

    public static void main(String[] args) throws IOException {
        worthHeld();
        worthByNone();
        lettersOfWorth();
        laws();
        sins();
        sentencedOnce();
        sentencedTo99();
        lastEvening();
        books();
        thoseWhoSit();
        thoseWhoDoNot();
        windows();
        owedTo99ByWindows();
        logs();
        latestLogs();
        appeals();
        pardons();
        lunches();
        teachings();
        gifts();
        actsUndone();
        latestActs();
        everyActUndone();
        eachActUndoneAlone();
        logsUndone();
        yearsBounds();
        draws();
        owedTo99ByYears();
        actsOfYears();
        done();
        images();
        imagesOfLogs();
        lastCall();
        CHECK.end();
    }

    private static void says(String words) throws IOException {
        CHECK.says(words);
    }

    private static void due(String call, long got, long want) {
        CHECK.due(call, got, want);
    }

    private static void due(String call, boolean got, boolean want) {
        CHECK.due(call, got, want);
    }

    private static int lonely(CompanyCourt x, int person) {
        return Check.person(x, person, 0);
    }

    // ---- the worth, laws, sin

    private static int worth(String law, String county) {
        CompanyCourt x = new CompanyCourt();
        Check.text(x, 1, law);
        x.law(0);
        Check.text(x, 0, county);
        return x.wrong(0, 4);
    }

    private static void worthHeld() throws IOException {
        says("EVENINGS for a WRONG: WORTH by the LAW that holds, held within 1 and the most");
        for (int most = 1; most <= 30; most++) {
            String county = "sm" + most + ";p;p;w";
            due("one less than the most", worth("y:" + (most - 1), county), Math.max(1, most - 1));
            due("the most", worth("y:" + most, county), most);
            due("one more", worth("y:" + (most + 1), county), most);
            due("far more", worth("y:9999*9999", county), most);
            due("0", worth("y:0", county), 1);
            due("1", worth("y:1", county), 1);
            due("-1", worth("y:0-1", county), 1);
            due("far less", worth("y:0-9999*9999", county), 1);
        }
        due("2 is not 1", worth("y:2", "p;p;w"), 2);
        due("20 without", worth("y:21", "p;p;w"), 20);
        CompanyCourt x = new CompanyCourt();
        Check.text(x, 1, "y:0-5");
        x.law(0);
        Check.text(x, 0, "p;p;w");
        due("SENTENCED to 1", x.sentence(0), 1);
    }

    private static void worthByNone() throws IOException {
        says("none at first: twice how GRAVE, and how HARD who did it is, less how LONELY the victim is by 2, cut");
        int[] halves = {0, 0, 1, 1, 2, 2, 3, 3, 4, 4};
        for (int grave = 1; grave <= 9; grave++) {
            for (int lonely = 0; lonely <= 9; lonely++) {
                for (int hard = 0; hard <= 9; hard++) {
                    CompanyCourt x = Check.court("sm30;pl0h" + hard + ";pl" + lonely + "h9;wg" + grave);
                    int want = grave + grave + hard - halves[lonely];
                    due("worth of " + grave + hard + lonely, x.wrong(0, 4), want < 1 ? 1 : want);
                }
            }
        }
        due("who did it is the second", Check.court("pl2h0;pl9h5;wa1v0g1").wrong(0, 4), 6);
        due("the most", Check.court("sm26;ph9;pl0;wg9").wrong(0, 4), 26);
        due("one more", Check.court("sm27;ph9;pl0;wg9").wrong(0, 4), 27);
    }

    private static void lettersOfWorth() throws IOException {
        says("letters: g GRAVE, h HARD (who did it), l LONELY, b BORE (the victim), n how many WRONGS of who did it"
                + " were SENTENCED already, d the EVENING now");
        String county = "sm30;pl1b2h3;pl4b5h6;wa1v0g9";
        String[] letters = {"g", "h", "l+10", "b+10", "n+10", "d+10"};
        int[] want = {9, 6, 11, 12, 10, 10};
        for (int i = 0; i < 6; i++) {
            due("letter " + letters[i], worth("y:" + letters[i], county), want[i]);
        }
        CompanyCourt x = new CompanyCourt();
        Check.text(x, 1, "y:n+1");
        x.law(0);
        Check.text(x, 0, "sm30;p;p;p;w;w;w;w;wv2;wv2;wa1v0;wa0v2");
        int[] owed = {1, 3, 6, 10, 5, 11};
        for (int i = 0; i < 6; i++) {
            due("n of " + i, x.sentence(i), owed[i]);
        }
        due("n of another one's", x.wrong(6, 4), 1);
        due("n of his own", x.wrong(7, 4), 7);
        due("n of one SENTENCED", x.wrong(0, 4), 7);
        x.sentence(6);
        due("n without others'", x.wrong(7, 4), 7);
        due("n of the eighth", x.sentence(7), 18);
        due("all of his", x.wrong(0, 4), 8);
        CompanyCourt y = new CompanyCourt();
        Check.text(y, 1, "y:d+1");
        y.law(0);
        Check.text(y, 0, "sm30;pl0;pl0;w");
        for (int d = 0; d < 32; d++) {
            due("d at " + d, y.wrong(0, 4), Math.min(30, d + 1));
            y.evening();
        }
        CompanyCourt now = new CompanyCourt();
        Check.text(now, 1, "y:10*l+b");
        now.law(0);
        Check.text(now, 0, "sm30;pl4b2;pl2b3;w");
        due("l and b as told", now.wrong(0, 4), 23);
        now.teach(1);
        due("b as now", now.wrong(0, 4), 22);
        now.lunch(0, 1);
        due("l as now", now.wrong(0, 4), 2);
    }

    private static void laws() throws IOException {
        says("`boolean law(int law)`: The LAW that holds (NONE: none). False: no such one.");
        CompanyCourt x = new CompanyCourt();
        due("none without any", x.law(NONE), true);
        due("the first without any", x.law(0), false);
        Check.text(x, 1, "y:11");
        due("told, but not held", x.count(5), NONE);
        due("the first", x.law(0), true);
        due("the second of one", x.law(1), false);
        due("the first still", x.count(5), 0);
        Check.text(x, 1, "y:12");
        due("the second of two", x.law(1), true);
        due("so again", x.law(1), true);
        due("the third of two", x.law(2), false);
        due("-2", x.law(-2), false);
        due("the lowest", x.law(Integer.MIN_VALUE), false);
        due("the highest", x.law(Integer.MAX_VALUE), false);
        due("the second still", x.count(5), 1);
        Check.text(x, 0, "p;p;w");
        due("worth by the second", x.wrong(0, 4), 12);
        due("none", x.law(NONE), true);
        due("none holds", x.count(5), NONE);
        due("worth by none", x.wrong(0, 4), 7);
    }

    private static void sins() throws IOException {
        says("`boolean sin(int v)`: SIN (0 .. 9). False: out of bounds, it is so.");
        CompanyCourt x = new CompanyCourt();
        due("3 at first", x.count(9), 3);
        for (int v = -2; v <= 11; v++) {
            CompanyCourt y = new CompanyCourt();
            boolean may = v >= 0 && v <= 9 && v != 3;
            due("sin " + v, y.sin(v), may);
            due("SIN then", y.count(9), may ? v : 3);
            due("it is so", y.sin(v), false);
            due("SIN still", y.count(9), may ? v : 3);
        }
        for (int v : WILD) {
            due("sin " + v, x.sin(v), false);
        }
        due("SIN still", x.count(9), 3);
        x.sin(9);
        due("3 again", x.sin(3), true);
    }

    // ---- sentences

    private static void sentencedOnce() throws IOException {
        says("A WRONG is SENTENCED (once)");
        CompanyCourt x = Check.court("p;p;w;w");
        due("the first", x.sentence(0), 7);
        due("again", x.sentence(0), NONE);
        due("owed still", x.owed(0, 1), 7);
        due("one act", x.count(12), 1);
        due("the second", x.sentence(1), 14);
        due("again", x.sentence(1), NONE);
        x.undo();
        due("undone, so again", x.sentence(1), 14);
        says("`int sentence(int wrong)`: SENTENCED: what the two OWE then. NONE: no such WRONG, it is.");
        CompanyCourt y = Check.court("p;p;w;w;w;w;w;w;w;w");
        due("the eighth", y.sentence(7), 7);
        due("the ninth", y.sentence(8), NONE);
        for (int n : WILD) {
            due("wrong " + n, y.sentence(n), NONE);
        }
        due("no county", new CompanyCourt().sentence(0), NONE);
        due("no wrong", Check.court("p;p").sentence(0), NONE);
    }

    private static void sentencedTo99() throws IOException {
        says("two OWE one another so many EVENINGS more (99 at most; told for two, whoever did it)");
        String[] more = {"g7", "g8", "g9"};
        int[] want = {97, 98, 99};
        for (int i = 0; i < 3; i++) {
            CompanyCourt x = Check.owing("p;p;wg9;wa1v0g9;wg9;wa1v0" + more[i]);
            due("90 and " + more[i], x.owed(0, 1), want[i]);
            due("of the other one", x.owed(1, 0), want[i]);
            due("he owes in all", Check.person(x, 1, 3), want[i]);
        }
        CompanyCourt x = Check.owing("p;p;p;p;p;p;wa5v4g9;wa4v5g9;wa5v4g9;wa4v5g8;wa4v5g1");
        due("98 and 1", x.owed(5, 4), 99);
        CompanyCourt y = Check.owing("p;p;wg9;wg9;wg9;wg8;wg2");
        due("98 and 2", y.owed(0, 1), 99);
        CompanyCourt z = Check.owing("p;p;wg9;wg9;wg9;wg9;wg9");
        due("99 and 30", z.owed(0, 1), 99);
        due("an act all the same", z.count(12), 5);
        due("SENTENCED all the same", z.all(4), 0);
        z.undo();
        due("undone", z.owed(0, 1), 99);
        z.undo();
        due("90", z.owed(0, 1), 90);
    }

    // ---- evenings

    private static CompanyCourt at(int evening, String county) {
        return Check.pass(Check.court(county), evening);
    }

    private static void lastEvening() throws IOException {
        says("An EVENING (0 at first; 999 at most: none goes by then)");
        due("0 at first", Check.court("p;p").count(6), 0);
        CompanyCourt x = at(998, "p;p");
        due("998", x.count(6), 998);
        due("the last", x.evening() == NONE, false);
        due("999", x.count(6), 999);
        due("none goes by", x.evening(), NONE);
        due("999 still", x.count(6), 999);
        due("40 acts", x.count(12), 40);
        x.undo();
        due("undone", x.evening() == NONE, false);
        says("`int evening()`: An EVENING: how many SAT. NONE: no COUNTY, beyond 999.");
        due("no county", new CompanyCourt().evening(), NONE);
        due("none sat", Check.court("p;p;p;p;p;p").evening(), 0);
        due("two", Check.owing("p;p;p;p;p;p;wa4v5").evening(), 2);
        due("four", Check.owing("p;p;p;p;p;p;wa4v5;w").evening(), 4);
        due("six", Check.owing("p;p;p;p;p;p;wa4v5;w;wa3v2").evening(), 6);
    }

    private static void tonight(String county, int want) {
        CompanyCourt x = Check.owing(county);
        due("tonight of " + county, x.tonight(), want);
        int people = x.count(0);
        int[] before = new int[people];
        int rest = want;
        for (int i = 0; i < people; i++) {
            before[i] = lonely(x, i);
        }
        x.evening();
        for (int i = people - 1; i >= 0; i--) {
            due("who sat is less lonely", lonely(x, i), before[i] + (rest % 10 == 9 ? 1 : -1));
            rest /= 10;
        }
    }

    private static void books() throws IOException {
        says("the BOOK: of all two who OWE EVENINGS to one another, that with the most first");
        tonight("p;p;p", 999);
        tonight("p;p;wg1", 10);
        tonight("p;p;p;wg1;wa0v2g2", 290);
        tonight("p;p;p;wg2;wa0v2g1", 109);
        tonight("p;p;p;p;wg1;wa2v3g1;wa1v2g2", 9219);
        tonight("p;p;p;p;p;p;wa4v5g2;wa3v4g3", 999439);
        says("(of several the lowest PERSON, then the lowest other one) SIT together, both free still that EVENING");
        tonight("p;p;p;wa1v2g2;w;wa2v0g3", 109);
        tonight("p;p;p;wa1v2;w;wa2v0", 109);
        tonight("p;p;p;wa1v2;wa2v0", 290);
        tonight("p;p;p;p;wa1v2;wa2v3", 9219);
        tonight("p;p;p;p;wa0v3;wa1v2", 3210);
        tonight("p;p;p;p;wa0v3;wa1v2;wa0v2", 2909);
        tonight("p;p;p;p;wa0v3;wa1v2;wa0v2;wa1v3", 2301);
        tonight("p;p;p;p;p;p;wa3v5;wa3v4;wa2v5", 995432);
        tonight("p;p;p;p;p;p;wa5v4;wa5v3;wa5v2;wa5v1", 959991);
        says("then likewise, as long as there are any");
        tonight("p;p;p;p;p;p;wa0v5g3;wa1v4g2;wa2v3g1", 543210);
        tonight("p;p;p;p;p;p;wa0v5g1;wa1v4g2;wa2v3g3", 543210);
        tonight("p;p;p;p;wa0v1g3;wa1v2g9;wa2v3g2;wa3v0g1", 3210);
        tonight("p;p;p;p;p;wa0v1g3;wa2v3g3", 10329);
    }

    private static void thoseWhoSit() throws IOException {
        says("Who SIT OWE one EVENING less, both are one less LONELY (0 at least)");
        CompanyCourt x = Check.owing("pl2;pl1;pl0;w;wa1v2g1");
        int[][] want = {{2, 1, 1, 0, 1}, {1, 1, 0, 0, 2}, {0, 1, 0, 0, 3}, {0, 0, 1, 0, 2}};
        for (int[] w : want) {
            x.evening();
            due("owed of 0 and 1", x.owed(0, 1), w[0]);
            due("owed of 1 and 2", x.owed(1, 2), w[1]);
            due("lonely 0", lonely(x, 0), w[2]);
            due("lonely 1", lonely(x, 1), w[3]);
            due("lonely 2", lonely(x, 2), w[4]);
        }
        CompanyCourt y = Check.owing("pl9;pl9;wg1");
        y.evening();
        due("one who is 9 and sits", lonely(y, 0) * 10 + lonely(y, 1), 88);
        due("no window", y.all(7), 0);
        due("nothing owed any more", y.owed(1, 0), 0);
        CompanyCourt z = Check.owing("pl0;pl1;wg1");
        z.evening();
        due("0 at least", lonely(z, 0), 0);
        due("of 1", lonely(z, 1), 0);
    }

    private static void thoseWhoDoNot() throws IOException {
        says("who does not SIT is one more LONELY");
        CompanyCourt x = Check.court("pl0;pl8;pl7;p");
        due("nobody", x.evening(), 0);
        due("from 0", lonely(x, 0), 1);
        due("from 8", lonely(x, 1), 9);
        due("from 7", lonely(x, 2), 8);
        due("no window by 8", x.all(7), 0);
        x.evening();
        due("a window by 9", lonely(x, 1), 5);
        due("from 8 then", lonely(x, 2), 9);
        due("one window", x.all(7), 1);
    }

    private static void windows() throws IOException {
        says("one who is 9 already breaks a WINDOW (by numbers): he and each other one OWE one EVENING more (99 at"
                + " most), he is LONELY 5 then");
        CompanyCourt x = Check.court("pl8;pl9;pl8;pl8");
        x.evening();
        due("he owes each", x.circle(1, 2), 13);
        due("one each", x.all(5), 3);
        due("lonely 5", lonely(x, 1), 5);
        due("others as by any evening", lonely(x, 0) + lonely(x, 2) + lonely(x, 3), 27);
        due("one window", x.all(7), 1);
        due("by him", x.log(0, 1), 2);
        CompanyCourt y = Check.court("pl9;pl9;pl9;pl0");
        y.evening();
        due("three windows", y.all(7), 3);
        due("by them", y.log(0, 1), 7);
        due("two by two of them", y.owed(0, 1) * 100 + y.owed(0, 2) * 10 + y.owed(1, 2), 222);
        due("one of the last", y.owed(0, 3) * 100 + y.owed(1, 3) * 10 + y.owed(2, 3), 111);
        for (int people = 2; people <= 6; people++) {
            for (int who = 0; who < people; who++) {
                brokenBy(people, who);
            }
        }
        CompanyCourt all = Check.court("pl9;pl9;pl9;pl9;pl9;pl9");
        all.evening();
        due("all six", all.log(0, 1), 63);
        due("windows of all six", all.all(7), 6);
        due("owed then", all.all(5), 30);
    }

    private static void brokenBy(int people, int who) {
        StringBuilder county = new StringBuilder();
        for (int i = 0; i < people; i++) {
            county.append(i == 0 ? "" : ";").append(i == who ? "pl9" : "pl8");
        }
        CompanyCourt x = Check.court(county.toString());
        x.evening();
        for (int one = 0; one < people; one++) {
            due("lonely " + one, lonely(x, one), one == who ? 5 : 9);
            due("in all " + one, Check.person(x, one, 3), one == who ? people - 1 : 1);
            for (int other = 0; other < people; other++) {
                if (one != other) {
                    due("owed " + one + other, x.owed(one, other), one == who || other == who ? 1 : 0);
                }
            }
        }
        due("bits of " + who, x.log(0, 1), 1 << who);
        due("owed in all", x.log(0, 2), people - 1);
    }

    private static void owedTo99ByWindows() throws IOException {
        says("he and each other one OWE one EVENING more (99 at most)");
        String[] last = {"wa0v2g7", "wa0v2g8", "wa0v2g9"};
        int[] want = {98, 99, 99};
        for (int i = 0; i < 3; i++) {
            CompanyCourt x = Check.owing("p;p;pl9;wg9;wg9;wg9;wg9;wa0v2g9;wa0v2g9;wa0v2g9;" + last[i]);
            x.evening();
            due("0 and 1 sat", x.owed(0, 1), 98);
            due("the window", x.log(0, 1), 4);
            due("90 and " + last[i] + " and one more", x.owed(2, 0), want[i]);
            due("of the other one", x.owed(0, 2), want[i]);
            due("the last two", x.owed(1, 2), 1);
        }
    }

    // ---- the log

    private static void logs() throws IOException {
        says("LOG: how many SAT, who broke a WINDOW (bits), all EVENINGS that are OWED then");
        CompanyCourt x = Check.owing("p;p;p;p;p;pl9;w;wa2v3g8");
        x.evening();
        due("sat", x.log(0, 0), 4);
        due("broke", x.log(0, 1), 32);
        due("owed", x.log(0, 2), 2 + 7 + 5);
        due("as it is", x.all(5), 14);
        CompanyCourt full = Check.owing("pl0;pl0;pl0;pl0;pl0;pl9;wg9;wg9;wg9;wg9;wa2v3g9;wa2v3g9;wa2v3g9;wa2v3g9");
        full.sin(9);
        for (int i = 0; i < 33; i++) {
            full.years(30, i * 31L + 7);
            due("owed after many", full.log(0, 2), full.all(5));
        }
        due("more than the half of a thousand", full.all(5) > 511, true);
        CompanyCourt six = Check.owing("p;p;p;p;p;p;w;wa2v3;wa4v5");
        six.evening();
        due("six sat", six.log(0, 0), 6);
        due("none broke", six.log(0, 1), 0);
        says("`int log(int i, int what)`: LOG, the latest (i 0), the one ahead of it (1) ..: 0 SAT, 1 WINDOWS (bits),"
                + " 2 OWED. NONE: no such ones.");
        due("no county", new CompanyCourt().log(0, 0), NONE);
        CompanyCourt y = Check.owing("pl8;p;p;pl9;w;wa2v3");
        due("none yet", y.log(0, 0), NONE);
        y.evening();
        y.pardon(0, 1);
        y.pardon(2, 3);
        y.evening();
        int[][] want = {{0, 0, 0}, {4, 0, 4}};
        for (int i = 0; i < 2; i++) {
            for (int what = 0; what < 3; what++) {
                due("log " + i + " " + what, y.log(i, what), want[i][what]);
            }
            due("what 3", y.log(i, 3), NONE);
        }
        due("the third of two", y.log(2, 0), NONE);
        for (int n : WILD) {
            due("log " + n, y.log(n, 0), NONE);
            due("what " + n, y.log(0, n), NONE);
        }
    }

    private static void latestLogs() throws IOException {
        says("(the latest 60)");
        for (int evenings = 58; evenings <= 63; evenings++) {
            CompanyCourt x = at(evenings, "p;p;p");
            int length = Math.min(60, evenings);
            due("how long at " + evenings, x.count(11), length);
            due("the first there is", x.log(length - 1, 0) == NONE, false);
            due("the one ahead of it", x.log(length, 0), NONE);
        }
        CompanyCourt x = Check.owing("p;p;w;w");
        int[] owed = new int[70];
        for (int i = 0; i < 70; i++) {
            x.evening();
            owed[i] = x.all(5) * 10 + x.log(0, 0);
        }
        for (int i = 0; i < 60; i++) {
            due("log " + i + " of 70", x.log(i, 2) * 10 + x.log(i, 0), owed[69 - i]);
        }
        due("the 61st", x.log(60, 2), NONE);
        CompanyCourt last = Check.pass(Check.owing("p;p;wg9;wg9;wg9;wg9"), 990);
        for (int evening = 991; evening <= 999; evening++) {
            due("sat at " + evening, last.evening(), last.log(0, 0));
            due("owed at " + evening, last.log(0, 2), last.all(5));
        }
        CompanyCourt owing = Check.pass(Check.court("sm30c99;p;p;wg9"), 997);
        owing.sentence(0);
        int debt = owing.all(5);
        owing.evening();
        owing.evening();
        due("owed at 999", owing.log(0, 2), debt - 2);
        due("owed at 998", owing.log(1, 2), debt - 1);
        due("sat at 999", owing.log(0, 0), 2);
        due("sat at 998", owing.log(1, 0), 2);
        CompanyCourt end = at(999, "p;p");
        due("60 at 999", end.count(11), 60);
        due("the 60th at 999", end.log(59, 2) == NONE, false);
        due("the 61st at 999", end.log(60, 2), NONE);
    }

    // ---- by hand

    private static void appeals() throws IOException {
        says("By hand: a WRONG is SENTENCED; an EVENING; an APPEAL of two: half of what they OWE, cut, goes (2 COINS; they"
                + " must OWE 2 or more)");
        for (int grave = 1; grave <= 8; grave++) {
            CompanyCourt x = Check.owing("p;p;p;wg" + grave);
            due("of " + grave, x.appeal(1, 0), grave < 2 ? NONE : grave - grave / 2);
            due("owed then", x.owed(0, 1), grave < 2 ? 1 : grave - grave / 2);
            due("coins then", x.count(7), grave < 2 ? 99 : 97);
            due("acts then", x.count(12), grave < 2 ? 1 : 2);
        }
        CompanyCourt most = Check.owing("p;p;wg9;wg9;wg9;wg9");
        due("of 99", most.appeal(0, 1), 50);
        for (int coins = 0; coins <= 4; coins++) {
            CompanyCourt x = Check.court("sc" + coins + ";p;p;w");
            x.sentence(0);
            due("by " + coins + " coins", x.appeal(0, 1), coins < 2 ? NONE : 4);
            due("coins then", x.count(7), coins < 2 ? coins : coins - 2);
            due("owed then", x.owed(0, 1), coins < 2 ? 7 : 4);
        }
        says("`int appeal(int one, int other)`: An APPEAL: what they OWE then. NONE: no such ones, alike, they OWE"
                + " less than 2, too few COINS.");
        CompanyCourt x = Check.owing("p;p;w");
        due("they owe none", Check.court("p;p").appeal(0, 1), NONE);
        refusedTwo((y, one, other) -> y.appeal(one, other));
        due("as they are", x.appeal(0, 1), 2);
    }

    /** A call of two. */
    private interface Two {
        int of(CompanyCourt x, int one, int other);
    }

    private static void refusedTwo(Two call) {
        CompanyCourt x = Check.owing("p;p;p;w;wa1v2;wa0v2");
        for (int n = 0; n < 3; n++) {
            due("alike", call.of(x, n, n), NONE);
            due("of 3", call.of(x, n, 3), NONE);
            due("3 of", call.of(x, 3, n), NONE);
            for (int wild : WILD) {
                due("of " + wild, call.of(x, n, wild), NONE);
                due(wild + " of", call.of(x, wild, n), NONE);
                due(wild + " alike", call.of(x, wild, wild), NONE);
            }
        }
        due("no county", call.of(new CompanyCourt(), 0, 1), NONE);
        due("no act", x.count(12), 3);
        due("no coin", x.count(7), 99);
        due("nothing goes", x.all(5), 9);
    }

    private static void pardons() throws IOException {
        says("a PARDON: all goes (4 COINS; they must OWE any)");
        int[] debts = {1, 2, 8, 30};
        int[] graves = {1, 2, 8, 9};
        for (int i = 0; i < 4; i++) {
            CompanyCourt x = Check.owing("p;p;p;wg" + graves[i]);
            due("of " + debts[i], x.pardon(1, 0), debts[i]);
            due("all goes", x.all(5), 0);
            due("coins then", x.count(7), 95);
            due("they owe none", x.pardon(1, 0), NONE);
        }
        CompanyCourt most = Check.owing("p;p;wg9;wg9;wg9;wg9");
        due("of 99", most.pardon(0, 1), 99);
        for (int coins = 2; coins <= 6; coins++) {
            CompanyCourt x = Check.court("sc" + coins + ";p;p;w");
            x.sentence(0);
            due("by " + coins + " coins", x.pardon(0, 1), coins < 4 ? NONE : 7);
            due("coins then", x.count(7), coins < 4 ? coins : coins - 4);
            due("owed then", x.owed(0, 1), coins < 4 ? 7 : 0);
        }
        says("`int pardon(int one, int other)`: A PARDON: how much it was. NONE: no such ones, alike, they OWE none,"
                + " too few COINS.");
        refusedTwo((y, one, other) -> y.pardon(one, other));
        due("they owe none", Check.court("p;p").pardon(0, 1), NONE);
    }

    private static void lunches() throws IOException {
        says("a LUNCH of two: both 2 less LONELY (0 at least; a COIN; not, if both are 0)");
        for (int one = 0; one <= 9; one++) {
            for (int other = 0; other <= 9; other++) {
                CompanyCourt x = Check.court("pl" + one + ";pl5;pl" + other);
                boolean may = one + other > 0;
                due("lunch of " + one + other, x.lunch(0, 2), may ? Math.max(0, one - 2) : NONE);
                due("the first", lonely(x, 0), Math.max(0, one - 2));
                due("the second", lonely(x, 2), Math.max(0, other - 2));
                due("another one", lonely(x, 1), 5);
                due("coins", x.count(7), may ? 19 : 20);
                due("acts", x.count(12), may ? 1 : 0);
            }
        }
        for (int coins = 0; coins <= 2; coins++) {
            CompanyCourt x = Check.court("sc" + coins + ";p;p");
            due("by " + coins + " coins", x.lunch(0, 1), coins < 1 ? NONE : 2);
            due("coins then", x.count(7), Math.max(0, coins - 1));
            due("lonely then", lonely(x, 1), coins < 1 ? 4 : 2);
        }
        CompanyCourt now = Check.court("sc3;pl1;pl3");
        due("of 1 and 3", now.lunch(0, 1), 0);
        due("of 0 and 1", now.lunch(0, 1), 0);
        due("both are 0 by now", now.lunch(0, 1), NONE);
        due("nor the other way", now.lunch(1, 0), NONE);
        due("one coin is left", now.count(7), 1);
        due("two acts", now.count(12), 2);
        CompanyCourt poor = Check.court("sc2;pl9;pl9");
        due("the first coin", poor.lunch(0, 1), 7);
        due("the last coin", poor.lunch(0, 1), 5);
        due("no coin by now", poor.lunch(0, 1), NONE);
        due("lonely still", lonely(poor, 0) + lonely(poor, 1), 10);
        poor.give(1);
        due("a coin again", poor.lunch(1, 0), 3);
        says("`int lunch(int one, int other)`: A LUNCH: LONELY of the first then. NONE: no such ones, alike, both are"
                + " 0, too few COINS.");
        refusedTwo((y, one, other) -> y.lunch(one, other));
        CompanyCourt x = Check.court("pl3;pl9");
        due("of the first", x.lunch(1, 0), 7);
    }

    private static void teachings() throws IOException {
        says("one is TAUGHT: one less a BORE (0 at least; 3 COINS)");
        for (int bore = 0; bore <= 9; bore++) {
            CompanyCourt x = Check.court("p;pb" + bore);
            due("teach " + bore, x.teach(1), bore == 0 ? NONE : bore - 1);
            due("a bore then", Check.person(x, 1, 1), Math.max(0, bore - 1));
            due("coins then", x.count(7), bore == 0 ? 20 : 17);
        }
        for (int coins = 1; coins <= 4; coins++) {
            CompanyCourt x = Check.court("sc" + coins + ";p;p");
            due("by " + coins + " coins", x.teach(0), coins < 3 ? NONE : 1);
            due("coins then", x.count(7), coins < 3 ? coins : coins - 3);
        }
        CompanyCourt now = Check.court("p;pb2");
        due("from 2", now.teach(1), 1);
        due("from 1", now.teach(1), 0);
        due("none by now", now.teach(1), NONE);
        due("none still", Check.person(now, 1, 1), 0);
        due("coins for two", now.count(7), 14);
        due("two acts", now.count(12), 2);
        CompanyCourt poor = Check.court("sc8;p;pb9");
        due("five coins are left", poor.teach(1), 8);
        due("two coins are left", poor.teach(1), 7);
        due("too few by now", poor.teach(1), NONE);
        due("coins still", poor.count(7), 2);
        poor.give(1);
        due("enough again", poor.teach(1), 6);
        says("`int teach(int person)`: TAUGHT: BORE then. NONE: no such one, none, too few COINS.");
        CompanyCourt fewer = Check.court("pb9;pb9;pb9;pb9;pb9;pb9");
        Check.text(fewer, 0, "p;p");
        due("of a county of more", fewer.teach(2), NONE);
        due("its last", fewer.teach(5), NONE);
        due("no coin of it", fewer.count(7), 20);
        CompanyCourt x = Check.court("pb9;pb9;pb9");
        due("the last", x.teach(2), 8);
        due("one behind", x.teach(3), NONE);
        for (int n : WILD) {
            due("teach " + n, x.teach(n), NONE);
        }
        due("one act", x.count(12), 1);
        due("no county", new CompanyCourt().teach(0), NONE);
    }

    private static void gifts() throws IOException {
        says("COINS are given (1 .. 50; 999 at most)");
        int[] gifts = {-1, 0, 1, 2, 49, 50, 51, 52, Integer.MIN_VALUE, Integer.MAX_VALUE};
        for (int n : gifts) {
            CompanyCourt x = Check.court("sc0;p;p");
            boolean may = n >= 1 && n <= 50;
            due("give " + n, x.give(n), may ? n : NONE);
            due("coins then", x.count(7), may ? n : 0);
            due("acts then", x.count(12), may ? 1 : 0);
        }
        for (int n = 1; n <= 50; n++) {
            CompanyCourt x = Check.court("sc99;p;p");
            for (int i = 0; i < 17; i++) {
                x.give(50);
            }
            x.give(25);
            due("974 and " + n, x.give(n), n <= 25 ? 974 + n : NONE);
            due("coins then", x.count(7), n <= 25 ? 974 + n : 974);
        }
        says("`int give(int n)`: COINS are given: COINS then. NONE: no COUNTY, out of bounds, above 999.");
        due("no county", new CompanyCourt().give(1), NONE);
        CompanyCourt x = Check.court("sc99;p;p");
        for (int i = 0; i < 18; i++) {
            due("coins", x.give(50), 149 + 50 * i);
        }
        due("1000", x.give(1), NONE);
        due("999 still", x.count(7), 999);
        due("far beyond", x.give(Integer.MAX_VALUE), NONE);
    }

    // ---- undoing

    private static void actsUndone() throws IOException {
        says("`int undo()`: The latest ACT is UNDONE: how many still can be. NONE: none.");
        due("no county", new CompanyCourt().undo(), NONE);
        CompanyCourt x = Check.court("p;p");
        due("no act", x.undo(), NONE);
        for (int i = 0; i < 3; i++) {
            x.give(1);
        }
        for (int i = 2; i >= 0; i--) {
            due("undo", x.undo(), i);
            due("coins", x.count(7), 20 + i);
        }
        due("none left", x.undo(), NONE);
        due("coins still", x.count(7), 20);
        x.give(5);
        due("another act", x.undo(), 0);
    }

    private static void latestActs() throws IOException {
        says("the latest 40 can be UNDONE one by one");
        for (int acts = 38; acts <= 43; acts++) {
            CompanyCourt x = Check.court("sc0;p;p");
            for (int i = 0; i < acts; i++) {
                x.give(1);
                due("acts", x.count(12), Math.min(40, i + 1));
            }
            int many = Math.min(40, acts);
            for (int i = many - 1; i >= 0; i--) {
                due("undo of " + acts, x.undo(), i);
                due("coins", x.count(7), acts - many + i);
            }
            due("no 41st", x.undo(), NONE);
            due("coins of older ones", x.count(7), acts - many);
        }
        CompanyCourt x = Check.court("sc0;p;p");
        for (int round = 0; round < 5; round++) {
            for (int i = 0; i < 45; i++) {
                x.give(1);
            }
            for (int i = 39; i >= 10 * round; i--) {
                due("undo in round " + round, x.undo(), i);
            }
        }
        due("coins of the rounds", x.count(7), 5 * 45 - 40 - 30 - 20 - 10);
    }

    private static void everyActUndone() throws IOException {
        says("All these are ACTS");
        CompanyCourt x = Check.owing("pl9;pb9;p;p;w;wa2v3g8");
        Check.text(x, 2, "e;a23");
        due("two sentences", x.count(12), 2);
        x.evening();
        x.appeal(2, 3);
        x.pardon(2, 3);
        x.lunch(1, 2);
        x.teach(1);
        x.give(1);
        x.years(2, 5);
        x.perform(0);
        due("all", x.count(12), 11);
        x.given(0, 1, true);
        x.image();
        x.law(NONE);
        x.sin(8);
        Check.text(x, 1, "y:1");
        due("these are none", x.count(12), 11);
        int[] counts = new int[13];
        for (int i = 0; i < 13; i++) {
            counts[i] = x.count(i);
        }
        for (int i = 10; i >= 0; i--) {
            due("undo", x.undo(), i);
        }
        int[] want = {4, 2, 2, 1, 0, NONE, 0, 99, 30, 8, 1, 0, 0};
        for (int i = 0; i < 13; i++) {
            due("count " + i + " undone", x.count(i), want[i]);
        }
        due("nothing owed", x.all(5), 0);
        due("all due", x.all(4), 3);
        due("no window", x.all(7), 0);
        due("lonely as told", lonely(x, 0) * 100 + lonely(x, 1) * 10 + lonely(x, 2), 944);
        due("a bore as told", Check.person(x, 1, 1), 9);
        due("the image stays", x.back(), counts[6]);
    }

    private interface Act {
        long of(CompanyCourt x);
    }

    /** One act away from a state in which all kinds of acts can be. */
    private static CompanyCourt ready() {
        CompanyCourt x = Check.owing("pl5b5;pl7b6;pl9;pl6;w;wa2v3g8;wa1v2g7;wa3v0g2");
        for (int i = 0; i < 3; i++) {
            x.undo();
        }
        Check.text(x, 2, "s2;e;a01;p01;e");
        x.image();
        x.evening();
        x.give(2);
        x.given(1, 4, true);
        return x;
    }

    private static void undone(String name, int acts, Act act) {
        CompanyCourt x = ready();
        int before = x.count(12);
        due(name + " is done", act.of(x) == NONE, false);
        due("acts by " + name, x.count(12), before + acts);
        for (int i = acts - 1; i >= 0; i--) {
            due("undo " + name, x.undo(), before + i);
        }
        new Twins(CHECK).alike(name + " and undo", x, ready());
    }

    private static void eachActUndoneAlone() throws IOException {
        says("All these are ACTS: the latest 40 can be UNDONE one by one (LOG, too).");
        undone("sentence", 1, x -> x.sentence(2));
        undone("evening", 1, CompanyCourt::evening);
        undone("appeal", 1, x -> x.appeal(0, 1));
        undone("pardon", 1, x -> x.pardon(0, 1));
        undone("lunch", 1, x -> x.lunch(2, 3));
        undone("teach", 1, x -> x.teach(1));
        undone("give", 1, x -> x.give(9));
        undone("a year", 1, x -> x.years(1, 8));
        undone("years", 12, x -> x.years(12, 8));
        undone("a session", 5, x -> x.perform(0));
        undone("two lunches", 2, x -> x.lunch(0, 1) + x.lunch(1, 0));
        undone("a pardon behind an appeal", 2, x -> x.appeal(0, 1) + x.pardon(0, 1));
    }

    private static void logsUndone() throws IOException {
        says("(LOG, too)");
        CompanyCourt x = Check.owing("p;p;p;w;wa1v2g8");
        int[] notes = new int[70];
        for (int i = 1; i < 70; i++) {
            x.evening();
            notes[i] = x.log(0, 2) * 1000 + x.log(0, 1) * 10 + x.log(0, 0);
        }
        for (int evening = 69; evening >= 29; evening--) {
            due("how long at " + evening, x.count(11), Math.min(60, evening));
            int length = Math.min(60, evening);
            due("the latest at " + evening, x.log(0, 2) * 1000 + x.log(0, 1) * 10 + x.log(0, 0), notes[evening]);
            due("the first at " + evening, x.log(length - 1, 2) * 1000 + x.log(length - 1, 1) * 10 + x.log(length - 1, 0),
                    notes[evening - length + 1]);
            due("none ahead of it", x.log(length, 0), NONE);
            due("undo", x.undo(), evening == 29 ? NONE : evening - 30);
        }
    }

    // ---- years

    private static void yearsBounds() throws IOException {
        says("`int years(int n, long seed)`: YEARS: the EVENING. NONE: no COUNTY, out of bounds, beyond 999.");
        due("no county", new CompanyCourt().years(1, 1), NONE);
        says("YEARS by a seed: n (1 .. 30) EVENINGS, ahead of each: a draw of 10");
        int[] many = {-1, 0, 1, 2, 29, 30, 31, 32, Integer.MIN_VALUE, Integer.MAX_VALUE};
        for (int n : many) {
            CompanyCourt x = Check.court("p;p");
            boolean may = n >= 1 && n <= 30;
            due("years " + n, x.years(n, 1), may ? n : NONE);
            due("the evening", x.count(6), may ? n : 0);
            due("acts", x.count(12), may ? n : 0);
        }
        for (int n = 1; n <= 30; n++) {
            CompanyCourt x = at(985, "p;p");
            due("985 and " + n, x.years(n, 1), n <= 14 ? 985 + n : NONE);
            due("the evening", x.count(6), n <= 14 ? 985 + n : 985);
        }
        CompanyCourt x = at(999, "p;p");
        due("beyond 999", x.years(1, 1), NONE);
        due("far beyond", x.years(Integer.MAX_VALUE, 1), NONE);
    }

    private static final BigInteger TIMES = new BigInteger("6364136223846793005");
    private static final BigInteger MORE = new BigInteger("1442695040888963407");
    private static BigInteger drawn = BigInteger.ZERO;

    /** The draw without any machine's own numbers, so that going round is done by hand. */
    private static int draw(int below) {
        BigInteger round = BigInteger.ONE.shiftLeft(64);
        drawn = drawn.multiply(TIMES).add(MORE).mod(round);
        return drawn.shiftRight(33).mod(BigInteger.valueOf(below)).intValue();
    }

    /** What two persons, none of them lonely, owe by so many evenings of that seed; a window is not reached. */
    private static int owedOfTwo(int people, int sin, int evenings, long seed) {
        drawn = BigInteger.valueOf(seed).mod(BigInteger.ONE.shiftLeft(64));
        int owed = 0;
        for (int i = 0; i < evenings; i++) {
            if (draw(10) < sin) {
                int one = draw(people);
                int other = draw(people);
                int much = draw(9) + 1;
                owed += one == other ? 0 : much;
            }
            owed -= owed > 0 ? 1 : 0;
        }
        return owed;
    }

    private static void draws() throws IOException {
        says("x, at first the seed, becomes x times 6364136223846793005 and 1442695040888963407 (64 bits, going"
                + " round); a draw of j: (x shifted right by 33, without sign) modulo j.");
        long[] seeds = {0, 1, -1, 2, Long.MIN_VALUE, Long.MAX_VALUE, Long.MIN_VALUE + 1, 1L << 33, 1L << 32, -(1L << 33),
            0x123456789ABCDEFL, 4611686018427387904L};
        for (long seed : seeds) {
            for (int n = 1; n <= 5; n++) {
                CompanyCourt x = Check.court("pl0;pl0");
                x.sin(9);
                due("years of seed " + seed, x.years(n, seed), n);
                due("owed by seed " + seed, x.owed(0, 1), owedOfTwo(2, 9, n, seed));
            }
        }
        says("a draw of 10 below SIN (0 .. 9; 3 at first): a draw of how many PERSONS there are, a draw of how many, a"
                + " draw of 9 and 1: if they are unlike, they OWE so many EVENINGS more (99 at most).");
        for (int sin = 0; sin <= 9; sin++) {
            for (int seed = 0; seed < 60; seed++) {
                CompanyCourt x = Check.court("pl0;pl0");
                x.sin(sin);
                x.years(3, seed);
                due("owed by sin " + sin + " and seed " + seed, x.owed(0, 1), owedOfTwo(2, sin, 3, seed));
            }
        }
        for (int people = 2; people <= 6; people++) {
            for (int seed = 0; seed < 60; seed++) {
                CompanyCourt x = Check.court("pl0;pl0;pl0;pl0;pl0;pl0".substring(0, 4 * people - 1));
                x.sin(9);
                x.years(1, seed);
                due("owed of " + people + " by seed " + seed, x.all(5), owedOfTwo(people, 9, 1, seed));
                drawn = BigInteger.valueOf(seed);
                int wrong = draw(10);
                int one = draw(people);
                int other = draw(people);
                due("who by seed " + seed, x.log(0, 0), wrong < 9 && one != other ? 2 : 0);
                if (wrong < 9 && one != other) {
                    due("lonely by seed " + seed, lonely(x, one) + lonely(x, other), 0);
                }
            }
        }
        CompanyCourt x = Check.court("pl0;pl0");
        x.years(3, 9);
        due("3 at first", x.owed(0, 1), owedOfTwo(2, 3, 3, 9));
    }

    private static void owedTo99ByYears() throws IOException {
        says("they OWE so many EVENINGS more (99 at most). Each EVENING with what is ahead of it is one ACT.");
        int raised = 0;
        for (int seed = 0; seed < 60; seed++) {
            for (int grave = 1; grave <= 9; grave++) {
                CompanyCourt x = Check.owing("pl0;pl0;wg9;wg9;wg9;wg" + grave);
                int before = x.owed(0, 1);
                x.sin(9);
                drawn = BigInteger.valueOf(seed);
                int more = draw(10) < 9 && draw(2) != draw(2) ? draw(9) + 1 : 0;
                x.years(1, seed);
                due("owed by seed " + seed, x.owed(0, 1), Math.min(99, before + more) - 1);
                raised += before + more > 99 ? 1 : 0;
            }
        }
        due("some would be more than 99", raised > 50, true);
    }

    private static void actsOfYears() throws IOException {
        says("Each EVENING with what is ahead of it is one ACT.");
        CompanyCourt x = Check.court("pl0;pl0");
        x.sin(9);
        x.years(5, 1);
        for (int i = 4; i >= 0; i--) {
            due("undo", x.undo(), i);
            due("the evening", x.count(6), i);
            due("owed then", x.owed(0, 1), owedOfTwo(2, 9, i, 1));
        }
        CompanyCourt y = Check.court("pl0;pl0");
        y.give(1);
        y.give(1);
        y.years(30, 1);
        y.years(9, 1);
        due("the latest 40", y.count(12), 40);
        for (int i = 0; i < 40; i++) {
            y.undo();
        }
        due("evening 0", y.count(6), 0);
        due("one coin", y.count(7), 21);
        due("none any more", y.undo(), NONE);
    }

    // ---- sessions done, images

    private static void done() throws IOException {
        says("`int perform(int session)`: DO: how many STEPS were done. NONE: no such SESSION, no COUNTY.");
        CompanyCourt x = Check.court("sc5;p;p;w");
        Check.text(x, 2, "s0;a01;a01;e;e");
        Check.text(x, 2, "a01;e");
        Check.text(x, 2, "e");
        due("up to the one that can't be", x.perform(0), 5);
        due("as many acts", x.count(12), 5);
        due("none", x.perform(1), 0);
        due("no act", x.count(12), 5);
        due("evening 2", x.count(6), 2);
        due("all", x.perform(2), 1);
        due("evening 3", x.count(6), 3);
        due("one behind the last", x.perform(3), NONE);
        for (int n : WILD) {
            due("session " + n, x.perform(n), NONE);
        }
        CompanyCourt y = new CompanyCourt();
        Check.text(y, 2, "e");
        due("no county", y.perform(0), NONE);
        due("no session", Check.court("p;p").perform(0), NONE);
        CompanyCourt alone = Check.court("p;p;w");
        Check.text(alone, 2, "e;e;e");
        Check.text(alone, 2, "e");
        due("its own steps alone", alone.perform(1), 1);
        due("nothing behind them", alone.all(4), 1);
        due("one act", alone.count(12), 1);
        says("DO: its STEPS as ACTS, up to there.");
        CompanyCourt z = Check.court("sc3;p;p;w;w");
        Check.text(z, 2, "s0;e;a01;p01;s1;e");
        due("up to the pardon", z.perform(0), 3);
        due("owed", z.owed(0, 1), 3);
        due("a log", z.log(0, 2), 6);
        due("due still", z.all(4), 2);
        due("undo", z.undo(), 2);
        due("undo", z.undo(), 1);
        due("no log", z.count(11), 0);
        CompanyCourt end = at(990, "p;p");
        Check.text(end, 2, "e;e;e;e;e;e;e;e;e;e");
        due("up to 999", end.perform(0), 9);
        due("999", end.count(6), 999);
        due("none behind", end.perform(0), 0);
    }

    private static void images() throws IOException {
        says("`int image()`: An IMAGE (instead of the one ahead): the EVENING. NONE: no COUNTY.");
        due("no county", new CompanyCourt().image(), NONE);
        CompanyCourt first = Check.court("p;p");
        due("at 0", first.image(), 0);
        first.evening();
        due("at 1", first.image(), 1);
        first.evening();
        due("the later one", first.back(), 1);
        due("again", first.back(), 1);
        due("999", at(999, "p;p").image(), 999);
        says("An IMAGE keeps what is OWED and SENTENCED, LONELY, BORE, COINS, WINDOWS, the EVENING, the LOG; BACK:"
                + " they are so again (no ACT can be UNDONE then).");
        CompanyCourt x = Check.owing("pl9;pb9;p;pl9;w;wa2v3g8");
        x.undo();
        x.evening();
        x.image();
        x.sentence(1);
        x.appeal(2, 3);
        x.teach(1);
        x.lunch(2, 3);
        x.give(7);
        Check.pass(x, 12);
        x.given(1, 8, true);
        x.sin(7);
        x.law(NONE);
        due("another evening", x.back(), 1);
        int[] want = {4, 2, 1, 0, 0, NONE, 1, 99, 30, 7, 1, 1, 0};
        for (int i = 0; i < 13; i++) {
            due("count " + i, x.count(i), want[i]);
        }
        due("owed", x.all(5) * 10 + x.owed(0, 1), 52);
        due("not sentenced", x.all(4), 2);
        due("lonely", lonely(x, 0) * 1000 + lonely(x, 1) * 100 + lonely(x, 2) * 10 + lonely(x, 3), 8355);
        due("bore", Check.person(x, 1, 1), 9);
        due("windows", x.all(7), 1);
        due("nothing to undo", x.undo(), NONE);
        x.give(1);
        due("one act then", x.undo(), 0);
        due("and none", x.undo(), NONE);
        says("`int back()`: BACK: the EVENING. NONE: no IMAGE of this COUNTY.");
        due("no county", new CompanyCourt().back(), NONE);
        CompanyCourt none = Check.court("p;p");
        none.give(1);
        due("no image", none.back(), NONE);
        due("the act stays", none.count(12), 1);
        due("the coin stays", none.count(7), 21);
        none.image();
        due("a faulty county", Check.text(none, 0, "p"), NONE);
        due("this county still", none.back(), 0);
        Check.text(none, 0, "p;p;p");
        due("of another county", none.back(), NONE);
        none.image();
        due("of this one", none.back(), 0);
    }

    private static void imagesOfLogs() throws IOException {
        says("the EVENING, the LOG; BACK: they are so again");
        int[] evenings = {0, 1, 59, 60, 61, 75};
        for (int n : evenings) {
            CompanyCourt x = Check.owing("p;p;p;wg9;wa1v2g8");
            for (int i = 0; i < n; i++) {
                x.evening();
            }
            x.image();
            int length = x.count(11);
            int[] notes = new int[60];
            for (int i = 0; i < length; i++) {
                notes[i] = x.log(i, 2) * 1000 + x.log(i, 1) * 10 + x.log(i, 0);
            }
            for (int i = 0; i < 40; i++) {
                x.undo();
            }
            x.sin(9);
            x.years(30, 3);
            x.years(30, 4);
            x.years(30, 5);
            due("back at " + n, x.back(), n);
            due("as long", x.count(11), length);
            for (int i = 0; i < length; i++) {
                due("note " + i, x.log(i, 2) * 1000 + x.log(i, 1) * 10 + x.log(i, 0), notes[i]);
            }
            due("none ahead", x.log(length, 0), NONE);
        }
    }

    private static void lastCall() throws IOException {
        says("An object is used for at most 512 calls after it has been made");
        CompanyCourt x = new CompanyCourt();
        x.end(0);
        x.feed(0x706C303B, 0x706C303B, 0x77000000, 0, 0);
        x.text(0);
        x.sentence(0);
        for (int call = 5; call < 512; call++) {
            x.evening();
        }
        due("the 512th call", x.count(6), 507);
    }
}
